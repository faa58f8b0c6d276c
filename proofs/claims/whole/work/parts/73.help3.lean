set_option maxHeartbeats 4000000 in
set_option maxRecDepth 100000 in
theorem h_read_x1 (l : Launch) (D : va_G) (T : Nat → ClassId) (g : Nat → Nat) (sz : Nat) (hl9 : l.stackTraces = false) (lo : Nat) (ra : Nat) (d0 : Nat) (b0 : Nat) (t0 : Nat) (r0 : Nat) (rd : Nat → Nat) (i : Int32) (hi : i < 0 ∨ ¬ i < nI 6) (x0 : Int32) (x1 : Int32) (ou : Nat) (o : Nat → Int64) : MUN l yL_read wsL_read ({ frames := 80, cells := 5, slots := 1106, locals := 4000 } : Room) D T g [.ref lo, .int i, .int x0, .int x1, .ref ou] [(lo, .inr (2, [.ref ra, .ref d0, .ref b0, .ref t0, .ref r0])), (ra, .inl (T 2, 6, .inr (.inr (.inr (.inr (fun j => some (rd j))))))), (ou, .inl (T 3, 1, .inr (.inl o)))] sz (fun u : Unit => some (.int (nI 1))) (fun u : Unit => True) (fun u : Unit => [(lo, .inr (2, [.ref ra, .ref d0, .ref b0, .ref t0, .ref r0])), (ra, .inl (T 2, 6, .inr (.inr (.inr (.inr (fun j => some (rd j))))))), (ou, .inl (T 3, 1, .inr (.inl o)))]) 5 1106 := by
  refine va_MetW (hh := [(0, 12, 15, 13), (0, 12, 19, 15), (0, 12, 23, 57)]) (cc := cL_read) (maxL := 6) (ret := (some .int)) (by decide) rfl ?_
  intro p e s m args below meth c s₁ B hml hv
  obtain ⟨rfl, ⟨hsz, hP, hK, hD0, hG⟩, hN⟩ := hv
  have hx := B.exec
  have hb := B.bytes
  have hr := B.returns
  have hts := atoms_spec (ws := wsL_read) B.pre
  have hown : s.vm.findClass RL = some m.cls := findClass_of_methodNamed B.named
  have hlocks := B.notSynchronized
  have htab : c.exceptionTable.toList = tableOf [(0, 12, 15, 13), (0, 12, 19, 15), (0, 12, 23, 57)] := vx_table (x := yL_add) B (hts _ (List.mem_of_getElem? (i := 0) rfl))
  subst hsz
  have hD := hD0.self (sz := s.heap.size)
  generalize hAe : va_A [(lo, .inr (2, [.ref ra, .ref d0, .ref b0, .ref t0, .ref r0])), (ra, .inl (T 2, 6, .inr (.inr (.inr (.inr (fun j => some (rd j))))))), (ou, .inl (T 3, 1, .inr (.inl o)))] s.heap.size = A at hD hG ⊢
  have hA : ∀ q : Nat, s.heap.size ≤ q → A q := fun q h => by rw [← hAe]; exact Or.inr h
  have hS : va_S A s.heap s.heap [] := va_S.rf
  have hP : va_P D cls [(lo, .inr (2, [.ref ra, .ref d0, .ref b0, .ref t0, .ref r0])), (ra, .inl (T 2, 6, .inr (.inr (.inr (.inr (fun j => some (rd j))))))), (ou, .inl (T 3, 1, .inr (.inl o)))] s.heap := hP
  have hl := lv_entry ([.ref lo, .int i, .int x0, .int x1, .ref ou]) (n := 6) (Nat.le_of_ble_eq_true rfl)
  rw [lg_entry_eq]
  generalize (lg_sl ([.ref lo, .int i, .int x0, .int x1, .ref ou]) ++ List.replicate (6 - (lg_sl ([.ref lo, .int i, .int x0, .int x1, .ref ou])).length) Slot.unset).toArray = ls at hl ⊢
  have hl : lv_has ls 6 [(0, .ref lo), (1, .int i), (2, .int x0), (3, .int x1), (4, .ref ou)] := hl
  refine lv_aload hx hb dL_read_0 (lv_at hl 4 rfl) ?_
  refine lv_iconst (v := (nI 0)) hx hb dL_read_2 (by decide +kernel) ?_
  refine lv_aload_n hx hb dL_read_3 rfl (lv_at hl 0 rfl) ?_
  refine lv_iload_n hx hb dL_read_4 rfl (lv_at hl 1 rfl) ?_
  refine lv_iload_n hx hb dL_read_5 rfl (lv_at hl 2 rfl) ?_
  refine lv_iload_n hx hb dL_read_6 rfl (lv_at hl 3 rfl) ?_
  refine tc_V (hpc := 15) (As := [.int i, .int x0, .int x1]) (rest := [.int (nI 0), .ref ou]) (wc := [(lo, .inr (2, [.ref ra, .ref d0, .ref b0, .ref t0, .ref r0])), (ra, .inl (T 2, 6, .inr (.inr (.inr (.inr (fun j => some (rd j)))))))]) (wr := [(ou, .inl (T 3, 1, .inr (.inl o)))]) ⟨hx, hb, hml, hown, hts⟩ (c_read_x1 l D T g s.heap.size (hl9) lo ra d0 b0 t0 r0 rd i (hi) x0 x1) (cwV 3 hts gL_read_X5_read rfl rfl rfl (by decide +kernel) ⟨Nat.le_of_ble_eq_true rfl, Nat.le_of_ble_eq_true rfl⟩) (va_recv hK hP (ci := 2) (q0 := 0) rfl rfl) hP hD hK hG hS hA [0, 1] [2] rfl (by decide) rfl (by decide) (by decide) ⟨Nat.le_of_ble_eq_true rfl, Nat.le_of_ble_eq_true rfl⟩ rfl hl.1 (Nat.le_of_ble_eq_true rfl) dL_read_7 rfl (fun H1 locs1 q9 ce h1 h2 h3 k9 => vx_catch (name := "java/lang/IndexOutOfBoundsException") hown [] ⟨0, 12, 15, 13⟩ [⟨0, 12, 19, 15⟩, ⟨0, 12, 23, 57⟩] (htab.trans rfl) (fun _ h => absurd h List.not_mem_nil) (by decide) (by decide) (hts _ (List.mem_of_getElem? (i := 1) rfl)) (va_Yc.word (hN.2 _ (List.mem_of_getElem? (i := 0) rfl))) h1 h2 h3 k9) (fun u q9 H locs hq1 hP hD hS => ?_)
  refine W.widen (k := 1) (n := 6) (Nat.le_of_ble_eq_true rfl) (Nat.le_of_ble_eq_true rfl) ?_
  have hP : va_P D cls [(ou, .inl (T 3, 1, .inr (.inl o))), (lo, .inr (2, [.ref ra, .ref d0, .ref b0, .ref t0, .ref r0])), (ra, .inl (T 2, 6, .inr (.inr (.inr (.inr (fun j => some (rd j)))))))] H := hP
  have hD : va_D A [(ou, .inl (T 3, 1, .inr (.inl o))), (lo, .inr (2, [.ref ra, .ref d0, .ref b0, .ref t0, .ref r0])), (ra, .inl (T 2, 6, .inr (.inr (.inr (.inr (fun j => some (rd j)))))))] := hD
  refine lv_astore (lv' := [(5, .ref q9), (0, .ref lo), (1, .int i), (2, .int x0), (3, .int x1), (4, .ref ou)]) hx hb dL_read_15 hl (by decide) rfl (fun ls hl => ?_)
  refine lv_iconst (v := (nI 1)) hx hb dL_read_17 (by decide +kernel) ?_
  have hP9 := hP.sub (ws' := [(lo, .inr (2, [.ref ra, .ref d0, .ref b0, .ref t0, .ref r0])), (ra, .inl (T 2, 6, .inr (.inr (.inr (.inr (fun j => some (rd j))))))), (ou, .inl (T 3, 1, .inr (.inl o)))]) [1, 2, 0] rfl
  have hD9 := hD.sub (ws' := [(lo, .inr (2, [.ref ra, .ref d0, .ref b0, .ref t0, .ref r0])), (ra, .inl (T 2, 6, .inr (.inr (.inr (.inr (fun j => some (rd j))))))), (ou, .inl (T 3, 1, .inr (.inl o)))]) [1, 2, 0] (by decide) rfl
  refine W.widen (k := 5) (n := 1106) (by omega) (by omega) ?_
  exact W.iret (v := (nI 1)) hx hb hr (fun t ht hW => ⟨⟨(), rfl, trivial, (by rw [ht]; exact hP9), va_K.moved hW.alike hK, hD9⟩, hS.F ht⟩) hS.2.2 dL_read_18
set_option maxHeartbeats 4000000 in
set_option maxRecDepth 100000 in
theorem h_read_x2 (l : Launch) (D : va_G) (T : Nat → ClassId) (g : Nat → Nat) (sz : Nat) (hl9 : l.stackTraces = false) (lo : Nat) (ra : Nat) (d0 : Nat) (b0 : Nat) (t0 : Nat) (r0 : Nat) (rd : Nat → Nat) (i : Nat) (hi : i < 6) (j : Int32) (hj : j < 0 ∨ ¬ j < nI 6) (x0 : Int32) (ou : Nat) (o : Nat → Int64) : MUN l yL_read wsL_read ({ frames := 80, cells := 5, slots := 1106, locals := 4000 } : Room) D T g [.ref lo, .int (nI i), .int j, .int x0, .ref ou] [(lo, .inr (2, [.ref ra, .ref d0, .ref b0, .ref t0, .ref r0])), (ra, .inl (T 2, 6, .inr (.inr (.inr (.inr (fun j => some (rd j))))))), (ou, .inl (T 3, 1, .inr (.inl o)))] sz (fun u : Unit => some (.int (nI 1))) (fun u : Unit => True) (fun u : Unit => [(lo, .inr (2, [.ref ra, .ref d0, .ref b0, .ref t0, .ref r0])), (ra, .inl (T 2, 6, .inr (.inr (.inr (.inr (fun j => some (rd j))))))), (ou, .inl (T 3, 1, .inr (.inl o)))]) 5 1106 := by
  refine va_MetW (hh := [(0, 12, 15, 13), (0, 12, 19, 15), (0, 12, 23, 57)]) (cc := cL_read) (maxL := 6) (ret := (some .int)) (by decide) rfl ?_
  intro p e s m args below meth c s₁ B hml hv
  obtain ⟨rfl, ⟨hsz, hP, hK, hD0, hG⟩, hN⟩ := hv
  have hx := B.exec
  have hb := B.bytes
  have hr := B.returns
  have hts := atoms_spec (ws := wsL_read) B.pre
  have hown : s.vm.findClass RL = some m.cls := findClass_of_methodNamed B.named
  have hlocks := B.notSynchronized
  have htab : c.exceptionTable.toList = tableOf [(0, 12, 15, 13), (0, 12, 19, 15), (0, 12, 23, 57)] := vx_table (x := yL_add) B (hts _ (List.mem_of_getElem? (i := 0) rfl))
  subst hsz
  have hD := hD0.self (sz := s.heap.size)
  generalize hAe : va_A [(lo, .inr (2, [.ref ra, .ref d0, .ref b0, .ref t0, .ref r0])), (ra, .inl (T 2, 6, .inr (.inr (.inr (.inr (fun j => some (rd j))))))), (ou, .inl (T 3, 1, .inr (.inl o)))] s.heap.size = A at hD hG ⊢
  have hA : ∀ q : Nat, s.heap.size ≤ q → A q := fun q h => by rw [← hAe]; exact Or.inr h
  have hS : va_S A s.heap s.heap [] := va_S.rf
  have hP : va_P D cls [(lo, .inr (2, [.ref ra, .ref d0, .ref b0, .ref t0, .ref r0])), (ra, .inl (T 2, 6, .inr (.inr (.inr (.inr (fun j => some (rd j))))))), (ou, .inl (T 3, 1, .inr (.inl o)))] s.heap := hP
  have hl := lv_entry ([.ref lo, .int (nI i), .int j, .int x0, .ref ou]) (n := 6) (Nat.le_of_ble_eq_true rfl)
  rw [lg_entry_eq]
  generalize (lg_sl ([.ref lo, .int (nI i), .int j, .int x0, .ref ou]) ++ List.replicate (6 - (lg_sl ([.ref lo, .int (nI i), .int j, .int x0, .ref ou])).length) Slot.unset).toArray = ls at hl ⊢
  have hl : lv_has ls 6 [(0, .ref lo), (1, .int (nI i)), (2, .int j), (3, .int x0), (4, .ref ou)] := hl
  refine lv_aload hx hb dL_read_0 (lv_at hl 4 rfl) ?_
  refine lv_iconst (v := (nI 0)) hx hb dL_read_2 (by decide +kernel) ?_
  refine lv_aload_n hx hb dL_read_3 rfl (lv_at hl 0 rfl) ?_
  refine lv_iload_n hx hb dL_read_4 rfl (lv_at hl 1 rfl) ?_
  refine lv_iload_n hx hb dL_read_5 rfl (lv_at hl 2 rfl) ?_
  refine lv_iload_n hx hb dL_read_6 rfl (lv_at hl 3 rfl) ?_
  refine tc_V (hpc := 15) (As := [.int (nI i), .int j, .int x0]) (rest := [.int (nI 0), .ref ou]) (wc := [(lo, .inr (2, [.ref ra, .ref d0, .ref b0, .ref t0, .ref r0])), (ra, .inl (T 2, 6, .inr (.inr (.inr (.inr (fun j => some (rd j)))))))]) (wr := [(ou, .inl (T 3, 1, .inr (.inl o)))]) ⟨hx, hb, hml, hown, hts⟩ (c_read_x2 l D T g s.heap.size (hl9) lo ra d0 b0 t0 r0 rd i (hi) j (hj) x0) (cwV 3 hts gL_read_X5_read rfl rfl rfl (by decide +kernel) ⟨Nat.le_of_ble_eq_true rfl, Nat.le_of_ble_eq_true rfl⟩) (va_recv hK hP (ci := 2) (q0 := 0) rfl rfl) hP hD hK hG hS hA [0, 1] [2] rfl (by decide) rfl (by decide) (by decide) ⟨Nat.le_of_ble_eq_true rfl, Nat.le_of_ble_eq_true rfl⟩ rfl hl.1 (Nat.le_of_ble_eq_true rfl) dL_read_7 rfl (fun H1 locs1 q9 ce h1 h2 h3 k9 => vx_catch (name := "java/lang/IndexOutOfBoundsException") hown [] ⟨0, 12, 15, 13⟩ [⟨0, 12, 19, 15⟩, ⟨0, 12, 23, 57⟩] (htab.trans rfl) (fun _ h => absurd h List.not_mem_nil) (by decide) (by decide) (hts _ (List.mem_of_getElem? (i := 1) rfl)) (va_Yc.word (hN.2 _ (List.mem_of_getElem? (i := 0) rfl))) h1 h2 h3 k9) (fun u q9 H locs hq1 hP hD hS => ?_)
  refine W.widen (k := 1) (n := 6) (Nat.le_of_ble_eq_true rfl) (Nat.le_of_ble_eq_true rfl) ?_
  have hP : va_P D cls [(ou, .inl (T 3, 1, .inr (.inl o))), (lo, .inr (2, [.ref ra, .ref d0, .ref b0, .ref t0, .ref r0])), (ra, .inl (T 2, 6, .inr (.inr (.inr (.inr (fun j => some (rd j)))))))] H := hP
  have hD : va_D A [(ou, .inl (T 3, 1, .inr (.inl o))), (lo, .inr (2, [.ref ra, .ref d0, .ref b0, .ref t0, .ref r0])), (ra, .inl (T 2, 6, .inr (.inr (.inr (.inr (fun j => some (rd j)))))))] := hD
  refine lv_astore (lv' := [(5, .ref q9), (0, .ref lo), (1, .int (nI i)), (2, .int j), (3, .int x0), (4, .ref ou)]) hx hb dL_read_15 hl (by decide) rfl (fun ls hl => ?_)
  refine lv_iconst (v := (nI 1)) hx hb dL_read_17 (by decide +kernel) ?_
  have hP9 := hP.sub (ws' := [(lo, .inr (2, [.ref ra, .ref d0, .ref b0, .ref t0, .ref r0])), (ra, .inl (T 2, 6, .inr (.inr (.inr (.inr (fun j => some (rd j))))))), (ou, .inl (T 3, 1, .inr (.inl o)))]) [1, 2, 0] rfl
  have hD9 := hD.sub (ws' := [(lo, .inr (2, [.ref ra, .ref d0, .ref b0, .ref t0, .ref r0])), (ra, .inl (T 2, 6, .inr (.inr (.inr (.inr (fun j => some (rd j))))))), (ou, .inl (T 3, 1, .inr (.inl o)))]) [1, 2, 0] (by decide) rfl
  refine W.widen (k := 5) (n := 1106) (by omega) (by omega) ?_
  exact W.iret (v := (nI 1)) hx hb hr (fun t ht hW => ⟨⟨(), rfl, trivial, (by rw [ht]; exact hP9), va_K.moved hW.alike hK, hD9⟩, hS.F ht⟩) hS.2.2 dL_read_18
set_option maxHeartbeats 4000000 in
set_option maxRecDepth 100000 in
theorem h_read_x3 (l : Launch) (D : va_G) (T : Nat → ClassId) (g : Nat → Nat) (sz : Nat) (hl9 : l.stackTraces = false) (lo : Nat) (ra : Nat) (d0 : Nat) (b0 : Nat) (t0 : Nat) (r0 : Nat) (rd : Nat → Nat) (i : Nat) (j : Nat) (hi : i < 6) (hj : j < 6) (k : Int32) (hk : k < 0 ∨ ¬ k < nI 3) (ou : Nat) (o : Nat → Int64) : MUN l yL_read wsL_read ({ frames := 80, cells := 5, slots := 1106, locals := 4000 } : Room) D T g [.ref lo, .int (nI i), .int (nI j), .int k, .ref ou] [(lo, .inr (2, [.ref ra, .ref d0, .ref b0, .ref t0, .ref r0])), (ra, .inl (T 2, 6, .inr (.inr (.inr (.inr (fun j => some (rd j))))))), (ou, .inl (T 3, 1, .inr (.inl o)))] sz (fun u : Unit => some (.int (nI 2))) (fun u : Unit => True) (fun u : Unit => [(lo, .inr (2, [.ref ra, .ref d0, .ref b0, .ref t0, .ref r0])), (ra, .inl (T 2, 6, .inr (.inr (.inr (.inr (fun j => some (rd j))))))), (ou, .inl (T 3, 1, .inr (.inl o)))]) 5 1106 := by
  refine va_MetW (hh := [(0, 12, 15, 13), (0, 12, 19, 15), (0, 12, 23, 57)]) (cc := cL_read) (maxL := 6) (ret := (some .int)) (by decide) rfl ?_
  intro p e s m args below meth c s₁ B hml hv
  obtain ⟨rfl, ⟨hsz, hP, hK, hD0, hG⟩, hN⟩ := hv
  have hx := B.exec
  have hb := B.bytes
  have hr := B.returns
  have hts := atoms_spec (ws := wsL_read) B.pre
  have hown : s.vm.findClass RL = some m.cls := findClass_of_methodNamed B.named
  have hlocks := B.notSynchronized
  have htab : c.exceptionTable.toList = tableOf [(0, 12, 15, 13), (0, 12, 19, 15), (0, 12, 23, 57)] := vx_table (x := yL_add) B (hts _ (List.mem_of_getElem? (i := 0) rfl))
  subst hsz
  have hD := hD0.self (sz := s.heap.size)
  generalize hAe : va_A [(lo, .inr (2, [.ref ra, .ref d0, .ref b0, .ref t0, .ref r0])), (ra, .inl (T 2, 6, .inr (.inr (.inr (.inr (fun j => some (rd j))))))), (ou, .inl (T 3, 1, .inr (.inl o)))] s.heap.size = A at hD hG ⊢
  have hA : ∀ q : Nat, s.heap.size ≤ q → A q := fun q h => by rw [← hAe]; exact Or.inr h
  have hS : va_S A s.heap s.heap [] := va_S.rf
  have hP : va_P D cls [(lo, .inr (2, [.ref ra, .ref d0, .ref b0, .ref t0, .ref r0])), (ra, .inl (T 2, 6, .inr (.inr (.inr (.inr (fun j => some (rd j))))))), (ou, .inl (T 3, 1, .inr (.inl o)))] s.heap := hP
  have hl := lv_entry ([.ref lo, .int (nI i), .int (nI j), .int k, .ref ou]) (n := 6) (Nat.le_of_ble_eq_true rfl)
  rw [lg_entry_eq]
  generalize (lg_sl ([.ref lo, .int (nI i), .int (nI j), .int k, .ref ou]) ++ List.replicate (6 - (lg_sl ([.ref lo, .int (nI i), .int (nI j), .int k, .ref ou])).length) Slot.unset).toArray = ls at hl ⊢
  have hl : lv_has ls 6 [(0, .ref lo), (1, .int (nI i)), (2, .int (nI j)), (3, .int k), (4, .ref ou)] := hl
  refine lv_aload hx hb dL_read_0 (lv_at hl 4 rfl) ?_
  refine lv_iconst (v := (nI 0)) hx hb dL_read_2 (by decide +kernel) ?_
  refine lv_aload_n hx hb dL_read_3 rfl (lv_at hl 0 rfl) ?_
  refine lv_iload_n hx hb dL_read_4 rfl (lv_at hl 1 rfl) ?_
  refine lv_iload_n hx hb dL_read_5 rfl (lv_at hl 2 rfl) ?_
  refine lv_iload_n hx hb dL_read_6 rfl (lv_at hl 3 rfl) ?_
  refine tc_V (hpc := 19) (As := [.int (nI i), .int (nI j), .int k]) (rest := [.int (nI 0), .ref ou]) (wc := [(lo, .inr (2, [.ref ra, .ref d0, .ref b0, .ref t0, .ref r0])), (ra, .inl (T 2, 6, .inr (.inr (.inr (.inr (fun j => some (rd j)))))))]) (wr := [(ou, .inl (T 3, 1, .inr (.inl o)))]) ⟨hx, hb, hml, hown, hts⟩ (c_read_x3 l D T g s.heap.size (hl9) lo ra d0 b0 t0 r0 rd i j (hi) (hj) k (hk)) (cwV 3 hts gL_read_X5_read rfl rfl rfl (by decide +kernel) ⟨Nat.le_of_ble_eq_true rfl, Nat.le_of_ble_eq_true rfl⟩) (va_recv hK hP (ci := 2) (q0 := 0) rfl rfl) hP hD hK hG hS hA [0, 1] [2] rfl (by decide) rfl (by decide) (by decide) ⟨Nat.le_of_ble_eq_true rfl, Nat.le_of_ble_eq_true rfl⟩ rfl hl.1 (Nat.le_of_ble_eq_true rfl) dL_read_7 rfl (fun H1 locs1 q9 ce h1 h2 h3 k9 => vx_catch (name := "java/lang/IllegalArgumentException") hown [⟨0, 12, 15, 13⟩] ⟨0, 12, 19, 15⟩ [⟨0, 12, 23, 57⟩] (htab.trans rfl) (List.forall_mem_cons.mpr ⟨Or.inr ⟨by decide, "java/lang/IndexOutOfBoundsException", (hts _ (List.mem_of_getElem? (i := 1) rfl)), hN.1 _ (List.mem_of_getElem? (i := 0) rfl)⟩, (fun _ h => absurd h List.not_mem_nil)⟩) (by decide) (by decide) (hts _ (List.mem_of_getElem? (i := 2) rfl)) (va_Yc.word (hN.2 _ (List.mem_of_getElem? (i := 1) rfl))) h1 h2 h3 k9) (fun u q9 H locs hq1 hP hD hS => ?_)
  refine W.widen (k := 1) (n := 6) (Nat.le_of_ble_eq_true rfl) (Nat.le_of_ble_eq_true rfl) ?_
  have hP : va_P D cls [(ou, .inl (T 3, 1, .inr (.inl o))), (lo, .inr (2, [.ref ra, .ref d0, .ref b0, .ref t0, .ref r0])), (ra, .inl (T 2, 6, .inr (.inr (.inr (.inr (fun j => some (rd j)))))))] H := hP
  have hD : va_D A [(ou, .inl (T 3, 1, .inr (.inl o))), (lo, .inr (2, [.ref ra, .ref d0, .ref b0, .ref t0, .ref r0])), (ra, .inl (T 2, 6, .inr (.inr (.inr (.inr (fun j => some (rd j)))))))] := hD
  refine lv_astore (lv' := [(5, .ref q9), (0, .ref lo), (1, .int (nI i)), (2, .int (nI j)), (3, .int k), (4, .ref ou)]) hx hb dL_read_19 hl (by decide) rfl (fun ls hl => ?_)
  refine lv_iconst (v := (nI 2)) hx hb dL_read_21 (by decide +kernel) ?_
  have hP9 := hP.sub (ws' := [(lo, .inr (2, [.ref ra, .ref d0, .ref b0, .ref t0, .ref r0])), (ra, .inl (T 2, 6, .inr (.inr (.inr (.inr (fun j => some (rd j))))))), (ou, .inl (T 3, 1, .inr (.inl o)))]) [1, 2, 0] rfl
  have hD9 := hD.sub (ws' := [(lo, .inr (2, [.ref ra, .ref d0, .ref b0, .ref t0, .ref r0])), (ra, .inl (T 2, 6, .inr (.inr (.inr (.inr (fun j => some (rd j))))))), (ou, .inl (T 3, 1, .inr (.inl o)))]) [1, 2, 0] (by decide) rfl
  refine W.widen (k := 5) (n := 1106) (by omega) (by omega) ?_
  exact W.iret (v := (nI 2)) hx hb hr (fun t ht hW => ⟨⟨(), rfl, trivial, (by rw [ht]; exact hP9), va_K.moved hW.alike hK, hD9⟩, hS.F ht⟩) hS.2.2 dL_read_22
set_option maxHeartbeats 4000000 in
set_option maxRecDepth 100000 in
theorem h_read_x4 (l : Launch) (D : va_G) (T : Nat → ClassId) (g : Nat → Nat) (sz : Nat) (hl9 : l.stackTraces = false) (lo : Nat) (ra : Nat) (d0 : Nat) (b0 : Nat) (t0 : Nat) (r0 : Nat) (rd : Nat → Nat) (fr : Nat) (fq : Nat) (rf : Nat → Int32) (rn : Nat) (B0 : Int32) (hd0 : Int32) (i : Nat) (q0 : Nat) (f : Nat → Int32) (n : Nat) (b : Nat → Nat) (hb9 : RB f n b) (j : Nat) (hi : i < 6) (hj : j < 6) (k : Nat) (hk : k < 3) (hw : wroB k n b = true) (ou : Nat) (o : Nat → Int64) : MUN l yL_read wsL_read ({ frames := 80, cells := 5, slots := 1106, locals := 4000 } : Room) D T g [.ref lo, .int (nI i), .int (nI j), .int (nI k), .ref ou] [(lo, .inr (2, [.ref ra, .ref d0, .ref b0, .ref t0, .ref r0])), (ra, .inl (T 2, 6, .inr (.inr (.inr (.inr (fun j => some (rd j))))))), (r0, .inr (1, [.ref fr, .int B0, .int hd0])), (fr, .inr (0, [.ref fq, .int (nI rn)])), (fq, .inl (T 0, 440, .inl rf)), (rd i, .inr (0, [.ref q0, .int (nI n)])), (q0, .inl (T 0, 440, .inl f)), (ou, .inl (T 3, 1, .inr (.inl o)))] sz (fun u : (Nat → Int32) × Nat × Int32 × Int32 => some (.int (nI 2))) (fun u : (Nat → Int32) × Nat × Int32 × Int32 => True) (fun u : (Nat → Int32) × Nat × Int32 × Int32 => [(lo, .inr (2, [.ref ra, .ref d0, .ref b0, .ref t0, .ref r0])), (ra, .inl (T 2, 6, .inr (.inr (.inr (.inr (fun j => some (rd j))))))), (r0, .inr (1, [.ref fr, .int u.2.2.1, .int u.2.2.2])), (fr, .inr (0, [.ref fq, .int (nI u.2.1)])), (fq, .inl (T 0, 440, .inl u.1)), (rd i, .inr (0, [.ref q0, .int (nI n)])), (q0, .inl (T 0, 440, .inl f)), (ou, .inl (T 3, 1, .inr (.inl o)))]) 5 1106 := by
  refine va_MetW (hh := [(0, 12, 15, 13), (0, 12, 19, 15), (0, 12, 23, 57)]) (cc := cL_read) (maxL := 6) (ret := (some .int)) (by decide) rfl ?_
  intro p e s m args below meth c s₁ B hml hv
  obtain ⟨rfl, ⟨hsz, hP, hK, hD0, hG⟩, hN⟩ := hv
  have hx := B.exec
  have hb := B.bytes
  have hr := B.returns
  have hts := atoms_spec (ws := wsL_read) B.pre
  have hown : s.vm.findClass RL = some m.cls := findClass_of_methodNamed B.named
  have hlocks := B.notSynchronized
  have htab : c.exceptionTable.toList = tableOf [(0, 12, 15, 13), (0, 12, 19, 15), (0, 12, 23, 57)] := vx_table (x := yL_add) B (hts _ (List.mem_of_getElem? (i := 0) rfl))
  subst hsz
  have hD := hD0.self (sz := s.heap.size)
  generalize hAe : va_A [(lo, .inr (2, [.ref ra, .ref d0, .ref b0, .ref t0, .ref r0])), (ra, .inl (T 2, 6, .inr (.inr (.inr (.inr (fun j => some (rd j))))))), (r0, .inr (1, [.ref fr, .int B0, .int hd0])), (fr, .inr (0, [.ref fq, .int (nI rn)])), (fq, .inl (T 0, 440, .inl rf)), (rd i, .inr (0, [.ref q0, .int (nI n)])), (q0, .inl (T 0, 440, .inl f)), (ou, .inl (T 3, 1, .inr (.inl o)))] s.heap.size = A at hD hG ⊢
  have hA : ∀ q : Nat, s.heap.size ≤ q → A q := fun q h => by rw [← hAe]; exact Or.inr h
  have hS : va_S A s.heap s.heap [] := va_S.rf
  have hP : va_P D cls [(lo, .inr (2, [.ref ra, .ref d0, .ref b0, .ref t0, .ref r0])), (ra, .inl (T 2, 6, .inr (.inr (.inr (.inr (fun j => some (rd j))))))), (r0, .inr (1, [.ref fr, .int B0, .int hd0])), (fr, .inr (0, [.ref fq, .int (nI rn)])), (fq, .inl (T 0, 440, .inl rf)), (rd i, .inr (0, [.ref q0, .int (nI n)])), (q0, .inl (T 0, 440, .inl f)), (ou, .inl (T 3, 1, .inr (.inl o)))] s.heap := hP
  have hl := lv_entry ([.ref lo, .int (nI i), .int (nI j), .int (nI k), .ref ou]) (n := 6) (Nat.le_of_ble_eq_true rfl)
  rw [lg_entry_eq]
  generalize (lg_sl ([.ref lo, .int (nI i), .int (nI j), .int (nI k), .ref ou]) ++ List.replicate (6 - (lg_sl ([.ref lo, .int (nI i), .int (nI j), .int (nI k), .ref ou])).length) Slot.unset).toArray = ls at hl ⊢
  have hl : lv_has ls 6 [(0, .ref lo), (1, .int (nI i)), (2, .int (nI j)), (3, .int (nI k)), (4, .ref ou)] := hl
  refine lv_aload hx hb dL_read_0 (lv_at hl 4 rfl) ?_
  refine lv_iconst (v := (nI 0)) hx hb dL_read_2 (by decide +kernel) ?_
  refine lv_aload_n hx hb dL_read_3 rfl (lv_at hl 0 rfl) ?_
  refine lv_iload_n hx hb dL_read_4 rfl (lv_at hl 1 rfl) ?_
  refine lv_iload_n hx hb dL_read_5 rfl (lv_at hl 2 rfl) ?_
  refine lv_iload_n hx hb dL_read_6 rfl (lv_at hl 3 rfl) ?_
  refine tc_V (hpc := 19) (As := [.int (nI i), .int (nI j), .int (nI k)]) (rest := [.int (nI 0), .ref ou]) (wc := [(lo, .inr (2, [.ref ra, .ref d0, .ref b0, .ref t0, .ref r0])), (ra, .inl (T 2, 6, .inr (.inr (.inr (.inr (fun j => some (rd j))))))), (r0, .inr (1, [.ref fr, .int B0, .int hd0])), (fr, .inr (0, [.ref fq, .int (nI rn)])), (fq, .inl (T 0, 440, .inl rf)), (rd i, .inr (0, [.ref q0, .int (nI n)])), (q0, .inl (T 0, 440, .inl f))]) (wr := [(ou, .inl (T 3, 1, .inr (.inl o)))]) ⟨hx, hb, hml, hown, hts⟩ (c_read_x4 l D T g s.heap.size (hl9) lo ra d0 b0 t0 r0 rd fr fq rf rn B0 hd0 i q0 f n b (hb9) j (hi) (hj) k (hk) (hw)) (cwV 3 hts gL_read_X5_read rfl rfl rfl (by decide +kernel) ⟨Nat.le_of_ble_eq_true rfl, Nat.le_of_ble_eq_true rfl⟩) (va_recv hK hP (ci := 2) (q0 := 0) rfl rfl) hP hD hK hG hS hA [0, 1, 2, 3, 4, 5, 6] [7] rfl (by decide) rfl (by decide) (by decide) ⟨Nat.le_of_ble_eq_true rfl, Nat.le_of_ble_eq_true rfl⟩ rfl hl.1 (Nat.le_of_ble_eq_true rfl) dL_read_7 rfl (fun H1 locs1 q9 ce h1 h2 h3 k9 => vx_catch (name := "java/lang/IllegalArgumentException") hown [⟨0, 12, 15, 13⟩] ⟨0, 12, 19, 15⟩ [⟨0, 12, 23, 57⟩] (htab.trans rfl) (List.forall_mem_cons.mpr ⟨Or.inr ⟨by decide, "java/lang/IndexOutOfBoundsException", (hts _ (List.mem_of_getElem? (i := 1) rfl)), hN.1 _ (List.mem_of_getElem? (i := 0) rfl)⟩, (fun _ h => absurd h List.not_mem_nil)⟩) (by decide) (by decide) (hts _ (List.mem_of_getElem? (i := 2) rfl)) (va_Yc.word (hN.2 _ (List.mem_of_getElem? (i := 1) rfl))) h1 h2 h3 k9) (fun u q9 H locs hq5 hP hD hS => ?_)
  obtain ⟨F2_1, nF2_2, B2_3, hd2_4⟩ := u
  refine W.widen (k := 1) (n := 6) (Nat.le_of_ble_eq_true rfl) (Nat.le_of_ble_eq_true rfl) ?_
  have hP : va_P D cls [(ou, .inl (T 3, 1, .inr (.inl o))), (lo, .inr (2, [.ref ra, .ref d0, .ref b0, .ref t0, .ref r0])), (ra, .inl (T 2, 6, .inr (.inr (.inr (.inr (fun j => some (rd j))))))), (r0, .inr (1, [.ref fr, .int B2_3, .int hd2_4])), (fr, .inr (0, [.ref fq, .int (nI nF2_2)])), (fq, .inl (T 0, 440, .inl F2_1)), (rd i, .inr (0, [.ref q0, .int (nI n)])), (q0, .inl (T 0, 440, .inl f))] H := hP
  have hD : va_D A [(ou, .inl (T 3, 1, .inr (.inl o))), (lo, .inr (2, [.ref ra, .ref d0, .ref b0, .ref t0, .ref r0])), (ra, .inl (T 2, 6, .inr (.inr (.inr (.inr (fun j => some (rd j))))))), (r0, .inr (1, [.ref fr, .int B2_3, .int hd2_4])), (fr, .inr (0, [.ref fq, .int (nI nF2_2)])), (fq, .inl (T 0, 440, .inl F2_1)), (rd i, .inr (0, [.ref q0, .int (nI n)])), (q0, .inl (T 0, 440, .inl f))] := hD
  refine lv_astore (lv' := [(5, .ref q9), (0, .ref lo), (1, .int (nI i)), (2, .int (nI j)), (3, .int (nI k)), (4, .ref ou)]) hx hb dL_read_19 hl (by decide) rfl (fun ls hl => ?_)
  refine lv_iconst (v := (nI 2)) hx hb dL_read_21 (by decide +kernel) ?_
  have hP9 := hP.sub (ws' := [(lo, .inr (2, [.ref ra, .ref d0, .ref b0, .ref t0, .ref r0])), (ra, .inl (T 2, 6, .inr (.inr (.inr (.inr (fun j => some (rd j))))))), (r0, .inr (1, [.ref fr, .int B2_3, .int hd2_4])), (fr, .inr (0, [.ref fq, .int (nI nF2_2)])), (fq, .inl (T 0, 440, .inl F2_1)), (rd i, .inr (0, [.ref q0, .int (nI n)])), (q0, .inl (T 0, 440, .inl f)), (ou, .inl (T 3, 1, .inr (.inl o)))]) [1, 2, 3, 4, 5, 6, 7, 0] rfl
  have hD9 := hD.sub (ws' := [(lo, .inr (2, [.ref ra, .ref d0, .ref b0, .ref t0, .ref r0])), (ra, .inl (T 2, 6, .inr (.inr (.inr (.inr (fun j => some (rd j))))))), (r0, .inr (1, [.ref fr, .int B2_3, .int hd2_4])), (fr, .inr (0, [.ref fq, .int (nI nF2_2)])), (fq, .inl (T 0, 440, .inl F2_1)), (rd i, .inr (0, [.ref q0, .int (nI n)])), (q0, .inl (T 0, 440, .inl f)), (ou, .inl (T 3, 1, .inr (.inl o)))]) [1, 2, 3, 4, 5, 6, 7, 0] (by decide) rfl
  refine W.widen (k := 5) (n := 1106) (by omega) (by omega) ?_
  exact W.iret (v := (nI 2)) hx hb hr (fun t ht hW => ⟨⟨(F2_1, nF2_2, B2_3, hd2_4), rfl, trivial, (by rw [ht]; exact hP9), va_K.moved hW.alike hK, hD9⟩, hS.F ht⟩) hS.2.2 dL_read_22
set_option maxHeartbeats 4000000 in
set_option maxRecDepth 100000 in
theorem h_read_x5 (l : Launch) (D : va_G) (T : Nat → ClassId) (g : Nat → Nat) (sz : Nat) (hl9 : l.stackTraces = false) (lo : Nat) (ra : Nat) (d0 : Nat) (b0 : Nat) (t0 : Nat) (r0 : Nat) (rd : Nat → Nat) (i : Nat) (q0 : Nat) (f : Nat → Int32) (n : Nat) (b : Nat → Nat) (hb9 : RB f n b) (j : Nat) (hi : i < 6) (hj : j < 6) (k : Nat) (hk : k < 3) (hw : wroB k n b = false) (hu : untB k n b = true) (ou : Nat) (o : Nat → Int64) : MUN l yL_read wsL_read ({ frames := 80, cells := 5, slots := 1106, locals := 4000 } : Room) D T g [.ref lo, .int (nI i), .int (nI j), .int (nI k), .ref ou] [(lo, .inr (2, [.ref ra, .ref d0, .ref b0, .ref t0, .ref r0])), (ra, .inl (T 2, 6, .inr (.inr (.inr (.inr (fun j => some (rd j))))))), (rd i, .inr (0, [.ref q0, .int (nI n)])), (q0, .inl (T 0, 440, .inl f)), (ou, .inl (T 3, 1, .inr (.inl o)))] sz (fun u : Unit => some (.int (nI 3))) (fun u : Unit => True) (fun u : Unit => [(lo, .inr (2, [.ref ra, .ref d0, .ref b0, .ref t0, .ref r0])), (ra, .inl (T 2, 6, .inr (.inr (.inr (.inr (fun j => some (rd j))))))), (rd i, .inr (0, [.ref q0, .int (nI n)])), (q0, .inl (T 0, 440, .inl f)), (ou, .inl (T 3, 1, .inr (.inl o)))]) 5 1106 := by
  refine va_MetW (hh := [(0, 12, 15, 13), (0, 12, 19, 15), (0, 12, 23, 57)]) (cc := cL_read) (maxL := 6) (ret := (some .int)) (by decide) rfl ?_
  intro p e s m args below meth c s₁ B hml hv
  obtain ⟨rfl, ⟨hsz, hP, hK, hD0, hG⟩, hN⟩ := hv
  have hx := B.exec
  have hb := B.bytes
  have hr := B.returns
  have hts := atoms_spec (ws := wsL_read) B.pre
  have hown : s.vm.findClass RL = some m.cls := findClass_of_methodNamed B.named
  have hlocks := B.notSynchronized
  have htab : c.exceptionTable.toList = tableOf [(0, 12, 15, 13), (0, 12, 19, 15), (0, 12, 23, 57)] := vx_table (x := yL_add) B (hts _ (List.mem_of_getElem? (i := 0) rfl))
  subst hsz
  have hD := hD0.self (sz := s.heap.size)
  generalize hAe : va_A [(lo, .inr (2, [.ref ra, .ref d0, .ref b0, .ref t0, .ref r0])), (ra, .inl (T 2, 6, .inr (.inr (.inr (.inr (fun j => some (rd j))))))), (rd i, .inr (0, [.ref q0, .int (nI n)])), (q0, .inl (T 0, 440, .inl f)), (ou, .inl (T 3, 1, .inr (.inl o)))] s.heap.size = A at hD hG ⊢
  have hA : ∀ q : Nat, s.heap.size ≤ q → A q := fun q h => by rw [← hAe]; exact Or.inr h
  have hS : va_S A s.heap s.heap [] := va_S.rf
  have hP : va_P D cls [(lo, .inr (2, [.ref ra, .ref d0, .ref b0, .ref t0, .ref r0])), (ra, .inl (T 2, 6, .inr (.inr (.inr (.inr (fun j => some (rd j))))))), (rd i, .inr (0, [.ref q0, .int (nI n)])), (q0, .inl (T 0, 440, .inl f)), (ou, .inl (T 3, 1, .inr (.inl o)))] s.heap := hP
  have hl := lv_entry ([.ref lo, .int (nI i), .int (nI j), .int (nI k), .ref ou]) (n := 6) (Nat.le_of_ble_eq_true rfl)
  rw [lg_entry_eq]
  generalize (lg_sl ([.ref lo, .int (nI i), .int (nI j), .int (nI k), .ref ou]) ++ List.replicate (6 - (lg_sl ([.ref lo, .int (nI i), .int (nI j), .int (nI k), .ref ou])).length) Slot.unset).toArray = ls at hl ⊢
  have hl : lv_has ls 6 [(0, .ref lo), (1, .int (nI i)), (2, .int (nI j)), (3, .int (nI k)), (4, .ref ou)] := hl
  refine lv_aload hx hb dL_read_0 (lv_at hl 4 rfl) ?_
  refine lv_iconst (v := (nI 0)) hx hb dL_read_2 (by decide +kernel) ?_
  refine lv_aload_n hx hb dL_read_3 rfl (lv_at hl 0 rfl) ?_
  refine lv_iload_n hx hb dL_read_4 rfl (lv_at hl 1 rfl) ?_
  refine lv_iload_n hx hb dL_read_5 rfl (lv_at hl 2 rfl) ?_
  refine lv_iload_n hx hb dL_read_6 rfl (lv_at hl 3 rfl) ?_
  refine tc_V (hpc := 23) (As := [.int (nI i), .int (nI j), .int (nI k)]) (rest := [.int (nI 0), .ref ou]) (wc := [(lo, .inr (2, [.ref ra, .ref d0, .ref b0, .ref t0, .ref r0])), (ra, .inl (T 2, 6, .inr (.inr (.inr (.inr (fun j => some (rd j))))))), (rd i, .inr (0, [.ref q0, .int (nI n)])), (q0, .inl (T 0, 440, .inl f))]) (wr := [(ou, .inl (T 3, 1, .inr (.inl o)))]) ⟨hx, hb, hml, hown, hts⟩ (c_read_x5 l D T g s.heap.size (hl9) lo ra d0 b0 t0 r0 rd i q0 f n b (hb9) j (hi) (hj) k (hk) (hw) (hu)) (cwV 3 hts gL_read_X5_read rfl rfl rfl (by decide +kernel) ⟨Nat.le_of_ble_eq_true rfl, Nat.le_of_ble_eq_true rfl⟩) (va_recv hK hP (ci := 2) (q0 := 0) rfl rfl) hP hD hK hG hS hA [0, 1, 2, 3] [4] rfl (by decide) rfl (by decide) (by decide) ⟨Nat.le_of_ble_eq_true rfl, Nat.le_of_ble_eq_true rfl⟩ rfl hl.1 (Nat.le_of_ble_eq_true rfl) dL_read_7 rfl (fun H1 locs1 q9 ce h1 h2 h3 k9 => vx_catch (name := "java/lang/UnsupportedOperationException") hown [⟨0, 12, 15, 13⟩, ⟨0, 12, 19, 15⟩] ⟨0, 12, 23, 57⟩ [] (htab.trans rfl) (List.forall_mem_cons.mpr ⟨Or.inr ⟨by decide, "java/lang/IndexOutOfBoundsException", (hts _ (List.mem_of_getElem? (i := 1) rfl)), hN.1 _ (List.mem_of_getElem? (i := 3) rfl)⟩, (List.forall_mem_cons.mpr ⟨Or.inr ⟨by decide, "java/lang/IllegalArgumentException", (hts _ (List.mem_of_getElem? (i := 2) rfl)), hN.1 _ (List.mem_of_getElem? (i := 4) rfl)⟩, (fun _ h => absurd h List.not_mem_nil)⟩)⟩) (by decide) (by decide) (hts _ (List.mem_of_getElem? (i := 3) rfl)) (va_Yc.word (hN.2 _ (List.mem_of_getElem? (i := 3) rfl))) h1 h2 h3 k9) (fun u q9 H locs hq1 hP hD hS => ?_)
  refine W.widen (k := 1) (n := 6) (Nat.le_of_ble_eq_true rfl) (Nat.le_of_ble_eq_true rfl) ?_
  have hP : va_P D cls [(ou, .inl (T 3, 1, .inr (.inl o))), (lo, .inr (2, [.ref ra, .ref d0, .ref b0, .ref t0, .ref r0])), (ra, .inl (T 2, 6, .inr (.inr (.inr (.inr (fun j => some (rd j))))))), (rd i, .inr (0, [.ref q0, .int (nI n)])), (q0, .inl (T 0, 440, .inl f))] H := hP
  have hD : va_D A [(ou, .inl (T 3, 1, .inr (.inl o))), (lo, .inr (2, [.ref ra, .ref d0, .ref b0, .ref t0, .ref r0])), (ra, .inl (T 2, 6, .inr (.inr (.inr (.inr (fun j => some (rd j))))))), (rd i, .inr (0, [.ref q0, .int (nI n)])), (q0, .inl (T 0, 440, .inl f))] := hD
  refine lv_astore (lv' := [(5, .ref q9), (0, .ref lo), (1, .int (nI i)), (2, .int (nI j)), (3, .int (nI k)), (4, .ref ou)]) hx hb dL_read_23 hl (by decide) rfl (fun ls hl => ?_)
  refine lv_iconst (v := (nI 3)) hx hb dL_read_25 (by decide +kernel) ?_
  have hP9 := hP.sub (ws' := [(lo, .inr (2, [.ref ra, .ref d0, .ref b0, .ref t0, .ref r0])), (ra, .inl (T 2, 6, .inr (.inr (.inr (.inr (fun j => some (rd j))))))), (rd i, .inr (0, [.ref q0, .int (nI n)])), (q0, .inl (T 0, 440, .inl f)), (ou, .inl (T 3, 1, .inr (.inl o)))]) [1, 2, 3, 4, 0] rfl
  have hD9 := hD.sub (ws' := [(lo, .inr (2, [.ref ra, .ref d0, .ref b0, .ref t0, .ref r0])), (ra, .inl (T 2, 6, .inr (.inr (.inr (.inr (fun j => some (rd j))))))), (rd i, .inr (0, [.ref q0, .int (nI n)])), (q0, .inl (T 0, 440, .inl f)), (ou, .inl (T 3, 1, .inr (.inl o)))]) [1, 2, 3, 4, 0] (by decide) rfl
  refine W.widen (k := 5) (n := 1106) (by omega) (by omega) ?_
  exact W.iret (v := (nI 3)) hx hb hr (fun t ht hW => ⟨⟨(), rfl, trivial, (by rw [ht]; exact hP9), va_K.moved hW.alike hK, hD9⟩, hS.F ht⟩) hS.2.2 dL_read_26
set_option maxHeartbeats 4000000 in
set_option maxRecDepth 100000 in
theorem h_read (l : Launch) (D : va_G) (T : Nat → ClassId) (g : Nat → Nat) (sz : Nat) (lo : Nat) (ra : Nat) (d0 : Nat) (b0 : Nat) (t0 : Nat) (r0 : Nat) (rd : Nat → Nat) (fr : Nat) (fq : Nat) (rf : Nat → Int32) (rn : Nat) (B0 : Int32) (hd0 : Int32) (i : Nat) (q0 : Nat) (f : Nat → Int32) (n : Nat) (j : Nat) (q1 : Nat) (f1 : Nat → Int32) (n1 : Nat) (b : Nat → Nat) (hb9 : RB f n b) (hi : i < 6) (hj : j < 6) (k : Nat) (hk : k < 3) (hw : wroB k n b = false) (hu : untB k n b = false) (ou : Nat) (o : Nat → Int64) : MUN l yL_read wsL_read ({ frames := 80, cells := 5, slots := 1106, locals := 4000 } : Room) D T g [.ref lo, .int (nI i), .int (nI j), .int (nI k), .ref ou] [(lo, .inr (2, [.ref ra, .ref d0, .ref b0, .ref t0, .ref r0])), (ra, .inl (T 2, 6, .inr (.inr (.inr (.inr (fun j => some (rd j))))))), (r0, .inr (1, [.ref fr, .int B0, .int hd0])), (fr, .inr (0, [.ref fq, .int (nI rn)])), (fq, .inl (T 0, 440, .inl rf)), (rd i, .inr (0, [.ref q0, .int (nI n)])), (q0, .inl (T 0, 440, .inl f)), (rd j, .inr (0, [.ref q1, .int (nI n1)])), (q1, .inl (T 0, 440, .inl f1)), (ou, .inl (T 3, 1, .inr (.inl o)))] sz (fun u : (Nat → Int32) × Nat × Int32 × Int32 × (Nat → Int32) => some (.int (nI 0))) (fun u : (Nat → Int32) × Nat × Int32 × Int32 × (Nat → Int32) => u.2.1 = lF k n b * 6 / 8 ∧ RB u.2.2.2.2 u.2.1 (outB (lwF k n b))) (fun u : (Nat → Int32) × Nat × Int32 × Int32 × (Nat → Int32) => [(lo, .inr (2, [.ref ra, .ref d0, .ref b0, .ref t0, .ref r0])), (ra, .inl (T 2, 6, .inr (.inr (.inr (.inr (fun j => some (rd j))))))), (r0, .inr (1, [.ref fr, .int u.2.2.1, .int u.2.2.2.1])), (fr, .inr (0, [.ref fq, .int (nI u.2.1)])), (fq, .inl (T 0, 440, .inl u.1)), (rd i, .inr (0, [.ref q0, .int (nI n)])), (q0, .inl (T 0, 440, .inl f)), (rd j, .inr (0, [.ref q1, .int (nI u.2.1)])), (q1, .inl (T 0, 440, .inl u.2.2.2.2)), (ou, .inl (T 3, 1, .inr (.inl (vp_updL o 0 (lN u.2.1)))))]) 5 1106 := by
  refine va_MetW (hh := [(0, 12, 15, 13), (0, 12, 19, 15), (0, 12, 23, 57)]) (cc := cL_read) (maxL := 6) (ret := (some .int)) (by decide) rfl ?_
  intro p e s m args below meth c s₁ B hml hv
  obtain ⟨rfl, ⟨hsz, hP, hK, hD0, hG⟩, hN⟩ := hv
  have hx := B.exec
  have hb := B.bytes
  have hr := B.returns
  have hts := atoms_spec (ws := wsL_read) B.pre
  have hown : s.vm.findClass RL = some m.cls := findClass_of_methodNamed B.named
  have hlocks := B.notSynchronized
  have htab : c.exceptionTable.toList = tableOf [(0, 12, 15, 13), (0, 12, 19, 15), (0, 12, 23, 57)] := vx_table (x := yL_add) B (hts _ (List.mem_of_getElem? (i := 0) rfl))
  subst hsz
  have hD := hD0.self (sz := s.heap.size)
  generalize hAe : va_A [(lo, .inr (2, [.ref ra, .ref d0, .ref b0, .ref t0, .ref r0])), (ra, .inl (T 2, 6, .inr (.inr (.inr (.inr (fun j => some (rd j))))))), (r0, .inr (1, [.ref fr, .int B0, .int hd0])), (fr, .inr (0, [.ref fq, .int (nI rn)])), (fq, .inl (T 0, 440, .inl rf)), (rd i, .inr (0, [.ref q0, .int (nI n)])), (q0, .inl (T 0, 440, .inl f)), (rd j, .inr (0, [.ref q1, .int (nI n1)])), (q1, .inl (T 0, 440, .inl f1)), (ou, .inl (T 3, 1, .inr (.inl o)))] s.heap.size = A at hD hG ⊢
  have hA : ∀ q : Nat, s.heap.size ≤ q → A q := fun q h => by rw [← hAe]; exact Or.inr h
  have hS : va_S A s.heap s.heap [] := va_S.rf
  have hP : va_P D cls [(lo, .inr (2, [.ref ra, .ref d0, .ref b0, .ref t0, .ref r0])), (ra, .inl (T 2, 6, .inr (.inr (.inr (.inr (fun j => some (rd j))))))), (r0, .inr (1, [.ref fr, .int B0, .int hd0])), (fr, .inr (0, [.ref fq, .int (nI rn)])), (fq, .inl (T 0, 440, .inl rf)), (rd i, .inr (0, [.ref q0, .int (nI n)])), (q0, .inl (T 0, 440, .inl f)), (rd j, .inr (0, [.ref q1, .int (nI n1)])), (q1, .inl (T 0, 440, .inl f1)), (ou, .inl (T 3, 1, .inr (.inl o)))] s.heap := hP
  have hl := lv_entry ([.ref lo, .int (nI i), .int (nI j), .int (nI k), .ref ou]) (n := 6) (Nat.le_of_ble_eq_true rfl)
  rw [lg_entry_eq]
  generalize (lg_sl ([.ref lo, .int (nI i), .int (nI j), .int (nI k), .ref ou]) ++ List.replicate (6 - (lg_sl ([.ref lo, .int (nI i), .int (nI j), .int (nI k), .ref ou])).length) Slot.unset).toArray = ls at hl ⊢
  have hl : lv_has ls 6 [(0, .ref lo), (1, .int (nI i)), (2, .int (nI j)), (3, .int (nI k)), (4, .ref ou)] := hl
  have hn9 := hb9.1
  have hz9 := l9_le (k := k) (b := b) hn9
  refine lv_aload hx hb dL_read_0 (lv_at hl 4 rfl) ?_
  refine lv_iconst (v := (nI 0)) hx hb dL_read_2 (by decide +kernel) ?_
  refine lv_aload_n hx hb dL_read_3 rfl (lv_at hl 0 rfl) ?_
  refine lv_iload_n hx hb dL_read_4 rfl (lv_at hl 1 rfl) ?_
  refine lv_iload_n hx hb dL_read_5 rfl (lv_at hl 2 rfl) ?_
  refine lv_iload_n hx hb dL_read_6 rfl (lv_at hl 3 rfl) ?_
  refine mu_V (As := [.int (nI i), .int (nI j), .int (nI k)]) (rest := [.int (nI 0), .ref ou]) (wc := [(lo, .inr (2, [.ref ra, .ref d0, .ref b0, .ref t0, .ref r0])), (ra, .inl (T 2, 6, .inr (.inr (.inr (.inr (fun j => some (rd j))))))), (r0, .inr (1, [.ref fr, .int B0, .int hd0])), (fr, .inr (0, [.ref fq, .int (nI rn)])), (fq, .inl (T 0, 440, .inl rf)), (rd i, .inr (0, [.ref q0, .int (nI n)])), (q0, .inl (T 0, 440, .inl f)), (rd j, .inr (0, [.ref q1, .int (nI n1)])), (q1, .inl (T 0, 440, .inl f1))]) (wr := [(ou, .inl (T 3, 1, .inr (.inl o)))]) ⟨hx, hb, hml, hown, hts⟩ (c_read l D T g s.heap.size lo ra d0 b0 t0 r0 rd fr fq rf rn B0 hd0 i q0 f n j q1 f1 n1 b (hb9) (hi) (hj) k (hk) (hw) (hu)) (cwV 3 hts gL_read_X5_read rfl rfl rfl (by decide +kernel) ⟨Nat.le_of_ble_eq_true rfl, Nat.le_of_ble_eq_true rfl⟩) (va_recv hK hP (ci := 2) (q0 := 0) rfl rfl) hP hD hK hG hS hA [0, 1, 2, 3, 4, 5, 6, 7, 8] [9] rfl (by decide) rfl (by decide) (by decide) ⟨Nat.le_of_ble_eq_true rfl, Nat.le_of_ble_eq_true rfl⟩ rfl hl.1 (Nat.le_of_ble_eq_true rfl) dL_read_7 rfl (fun u H locs hq6 hP hD hS => ?_)
  obtain ⟨F2_1, nF2_2, B2_3, hd2_4, G_5⟩ := u
  have hP : va_P D cls [(ou, .inl (T 3, 1, .inr (.inl o))), (lo, .inr (2, [.ref ra, .ref d0, .ref b0, .ref t0, .ref r0])), (ra, .inl (T 2, 6, .inr (.inr (.inr (.inr (fun j => some (rd j))))))), (r0, .inr (1, [.ref fr, .int B2_3, .int hd2_4])), (fr, .inr (0, [.ref fq, .int (nI nF2_2)])), (fq, .inl (T 0, 440, .inl F2_1)), (rd i, .inr (0, [.ref q0, .int (nI n)])), (q0, .inl (T 0, 440, .inl f)), (rd j, .inr (0, [.ref q1, .int (nI nF2_2)])), (q1, .inl (T 0, 440, .inl G_5))] H := hP
  have hD : va_D A [(ou, .inl (T 3, 1, .inr (.inl o))), (lo, .inr (2, [.ref ra, .ref d0, .ref b0, .ref t0, .ref r0])), (ra, .inl (T 2, 6, .inr (.inr (.inr (.inr (fun j => some (rd j))))))), (r0, .inr (1, [.ref fr, .int B2_3, .int hd2_4])), (fr, .inr (0, [.ref fq, .int (nI nF2_2)])), (fq, .inl (T 0, 440, .inl F2_1)), (rd i, .inr (0, [.ref q0, .int (nI n)])), (q0, .inl (T 0, 440, .inl f)), (rd j, .inr (0, [.ref q1, .int (nI nF2_2)])), (q1, .inl (T 0, 440, .inl G_5))] := hD
  have hp1 : nF2_2 = lF k n b * 6 / 8 ∧ RB G_5 nF2_2 (outB (lwF k n b)) := hq6
  refine W.eq (g2 := F0 m 10 ls [.int (nI nF2_2), .int (nI 0), .ref ou]) rfl ?_
  refine lv_i2l hx hb dL_read_10 (v := lN nF2_2) (nI_l (by omega)) ?_
  refine va_last hx hb hK hP hD hS 0 3 rfl rfl (vp_in_nI (by omega) (by omega)) dL_read_11 (fun H locs hP hD hS => ?_)
  rw [nI_clamp (by omega)] at hP hD
  have hP : va_P D cls [(ou, .inl (T 3, 1, .inr (.inl (vp_updL o 0 (lN nF2_2))))), (lo, .inr (2, [.ref ra, .ref d0, .ref b0, .ref t0, .ref r0])), (ra, .inl (T 2, 6, .inr (.inr (.inr (.inr (fun j => some (rd j))))))), (r0, .inr (1, [.ref fr, .int B2_3, .int hd2_4])), (fr, .inr (0, [.ref fq, .int (nI nF2_2)])), (fq, .inl (T 0, 440, .inl F2_1)), (rd i, .inr (0, [.ref q0, .int (nI n)])), (q0, .inl (T 0, 440, .inl f)), (rd j, .inr (0, [.ref q1, .int (nI nF2_2)])), (q1, .inl (T 0, 440, .inl G_5))] H := hP
  have hD : va_D A [(ou, .inl (T 3, 1, .inr (.inl (vp_updL o 0 (lN nF2_2))))), (lo, .inr (2, [.ref ra, .ref d0, .ref b0, .ref t0, .ref r0])), (ra, .inl (T 2, 6, .inr (.inr (.inr (.inr (fun j => some (rd j))))))), (r0, .inr (1, [.ref fr, .int B2_3, .int hd2_4])), (fr, .inr (0, [.ref fq, .int (nI nF2_2)])), (fq, .inl (T 0, 440, .inl F2_1)), (rd i, .inr (0, [.ref q0, .int (nI n)])), (q0, .inl (T 0, 440, .inl f)), (rd j, .inr (0, [.ref q1, .int (nI nF2_2)])), (q1, .inl (T 0, 440, .inl G_5))] := hD
  refine lv_goto (tgt := 27) hx hb dL_read_12 (by decide) ?_
  refine lv_iconst (v := (nI 0)) hx hb dL_read_27 (by decide +kernel) ?_
  have hP9 := hP.sub (ws' := [(lo, .inr (2, [.ref ra, .ref d0, .ref b0, .ref t0, .ref r0])), (ra, .inl (T 2, 6, .inr (.inr (.inr (.inr (fun j => some (rd j))))))), (r0, .inr (1, [.ref fr, .int B2_3, .int hd2_4])), (fr, .inr (0, [.ref fq, .int (nI nF2_2)])), (fq, .inl (T 0, 440, .inl F2_1)), (rd i, .inr (0, [.ref q0, .int (nI n)])), (q0, .inl (T 0, 440, .inl f)), (rd j, .inr (0, [.ref q1, .int (nI nF2_2)])), (q1, .inl (T 0, 440, .inl G_5)), (ou, .inl (T 3, 1, .inr (.inl (vp_updL o 0 (lN nF2_2)))))]) [1, 2, 3, 4, 5, 6, 7, 8, 9, 0] rfl
  have hD9 := hD.sub (ws' := [(lo, .inr (2, [.ref ra, .ref d0, .ref b0, .ref t0, .ref r0])), (ra, .inl (T 2, 6, .inr (.inr (.inr (.inr (fun j => some (rd j))))))), (r0, .inr (1, [.ref fr, .int B2_3, .int hd2_4])), (fr, .inr (0, [.ref fq, .int (nI nF2_2)])), (fq, .inl (T 0, 440, .inl F2_1)), (rd i, .inr (0, [.ref q0, .int (nI n)])), (q0, .inl (T 0, 440, .inl f)), (rd j, .inr (0, [.ref q1, .int (nI nF2_2)])), (q1, .inl (T 0, 440, .inl G_5)), (ou, .inl (T 3, 1, .inr (.inl (vp_updL o 0 (lN nF2_2)))))]) [1, 2, 3, 4, 5, 6, 7, 8, 9, 0] (by decide) rfl
  refine W.widen (k := 5) (n := 1106) (by omega) (by omega) ?_
  exact W.iret (v := (nI 0)) hx hb hr (fun t ht hW => ⟨⟨(F2_1, nF2_2, B2_3, hd2_4, G_5), rfl, show nF2_2 = lF k n b * 6 / 8 ∧ RB G_5 nF2_2 (outB (lwF k n b)) from hp1, (by rw [ht]; exact hP9), va_K.moved hW.alike hK, hD9⟩, hS.F ht⟩) hS.2.2 dL_read_28
set_option maxHeartbeats 4000000 in
set_option maxRecDepth 100000 in
theorem h_read_a (l : Launch) (D : va_G) (T : Nat → ClassId) (g : Nat → Nat) (sz : Nat) (lo : Nat) (ra : Nat) (d0 : Nat) (b0 : Nat) (t0 : Nat) (r0 : Nat) (rd : Nat → Nat) (fr : Nat) (fq : Nat) (rf : Nat → Int32) (rn : Nat) (B0 : Int32) (hd0 : Int32) (i : Nat) (q0 : Nat) (f : Nat → Int32) (n : Nat) (b : Nat → Nat) (hb9 : RB f n b) (hi : i < 6) (k : Nat) (hk : k < 3) (hw : wroB k n b = false) (hu : untB k n b = false) (ou : Nat) (o : Nat → Int64) : MUN l yL_read wsL_read ({ frames := 80, cells := 5, slots := 1106, locals := 4000 } : Room) D T g [.ref lo, .int (nI i), .int (nI i), .int (nI k), .ref ou] [(lo, .inr (2, [.ref ra, .ref d0, .ref b0, .ref t0, .ref r0])), (ra, .inl (T 2, 6, .inr (.inr (.inr (.inr (fun j => some (rd j))))))), (r0, .inr (1, [.ref fr, .int B0, .int hd0])), (fr, .inr (0, [.ref fq, .int (nI rn)])), (fq, .inl (T 0, 440, .inl rf)), (rd i, .inr (0, [.ref q0, .int (nI n)])), (q0, .inl (T 0, 440, .inl f)), (ou, .inl (T 3, 1, .inr (.inl o)))] sz (fun u : (Nat → Int32) × Nat × Int32 × Int32 × (Nat → Int32) => some (.int (nI 0))) (fun u : (Nat → Int32) × Nat × Int32 × Int32 × (Nat → Int32) => u.2.1 = lF k n b * 6 / 8 ∧ RB u.2.2.2.2 u.2.1 (outB (lwF k n b))) (fun u : (Nat → Int32) × Nat × Int32 × Int32 × (Nat → Int32) => [(lo, .inr (2, [.ref ra, .ref d0, .ref b0, .ref t0, .ref r0])), (ra, .inl (T 2, 6, .inr (.inr (.inr (.inr (fun j => some (rd j))))))), (r0, .inr (1, [.ref fr, .int u.2.2.1, .int u.2.2.2.1])), (fr, .inr (0, [.ref fq, .int (nI u.2.1)])), (fq, .inl (T 0, 440, .inl u.1)), (rd i, .inr (0, [.ref q0, .int (nI u.2.1)])), (q0, .inl (T 0, 440, .inl u.2.2.2.2)), (ou, .inl (T 3, 1, .inr (.inl (vp_updL o 0 (lN u.2.1)))))]) 5 1106 := by
  refine va_MetW (hh := [(0, 12, 15, 13), (0, 12, 19, 15), (0, 12, 23, 57)]) (cc := cL_read) (maxL := 6) (ret := (some .int)) (by decide) rfl ?_
  intro p e s m args below meth c s₁ B hml hv
  obtain ⟨rfl, ⟨hsz, hP, hK, hD0, hG⟩, hN⟩ := hv
  have hx := B.exec
  have hb := B.bytes
  have hr := B.returns
  have hts := atoms_spec (ws := wsL_read) B.pre
  have hown : s.vm.findClass RL = some m.cls := findClass_of_methodNamed B.named
  have hlocks := B.notSynchronized
  have htab : c.exceptionTable.toList = tableOf [(0, 12, 15, 13), (0, 12, 19, 15), (0, 12, 23, 57)] := vx_table (x := yL_add) B (hts _ (List.mem_of_getElem? (i := 0) rfl))
  subst hsz
  have hD := hD0.self (sz := s.heap.size)
  generalize hAe : va_A [(lo, .inr (2, [.ref ra, .ref d0, .ref b0, .ref t0, .ref r0])), (ra, .inl (T 2, 6, .inr (.inr (.inr (.inr (fun j => some (rd j))))))), (r0, .inr (1, [.ref fr, .int B0, .int hd0])), (fr, .inr (0, [.ref fq, .int (nI rn)])), (fq, .inl (T 0, 440, .inl rf)), (rd i, .inr (0, [.ref q0, .int (nI n)])), (q0, .inl (T 0, 440, .inl f)), (ou, .inl (T 3, 1, .inr (.inl o)))] s.heap.size = A at hD hG ⊢
  have hA : ∀ q : Nat, s.heap.size ≤ q → A q := fun q h => by rw [← hAe]; exact Or.inr h
  have hS : va_S A s.heap s.heap [] := va_S.rf
  have hP : va_P D cls [(lo, .inr (2, [.ref ra, .ref d0, .ref b0, .ref t0, .ref r0])), (ra, .inl (T 2, 6, .inr (.inr (.inr (.inr (fun j => some (rd j))))))), (r0, .inr (1, [.ref fr, .int B0, .int hd0])), (fr, .inr (0, [.ref fq, .int (nI rn)])), (fq, .inl (T 0, 440, .inl rf)), (rd i, .inr (0, [.ref q0, .int (nI n)])), (q0, .inl (T 0, 440, .inl f)), (ou, .inl (T 3, 1, .inr (.inl o)))] s.heap := hP
  have hl := lv_entry ([.ref lo, .int (nI i), .int (nI i), .int (nI k), .ref ou]) (n := 6) (Nat.le_of_ble_eq_true rfl)
  rw [lg_entry_eq]
  generalize (lg_sl ([.ref lo, .int (nI i), .int (nI i), .int (nI k), .ref ou]) ++ List.replicate (6 - (lg_sl ([.ref lo, .int (nI i), .int (nI i), .int (nI k), .ref ou])).length) Slot.unset).toArray = ls at hl ⊢
  have hl : lv_has ls 6 [(0, .ref lo), (1, .int (nI i)), (2, .int (nI i)), (3, .int (nI k)), (4, .ref ou)] := hl
  have hn9 := hb9.1
  have hz9 := l9_le (k := k) (b := b) hn9
  refine lv_aload hx hb dL_read_0 (lv_at hl 4 rfl) ?_
  refine lv_iconst (v := (nI 0)) hx hb dL_read_2 (by decide +kernel) ?_
  refine lv_aload_n hx hb dL_read_3 rfl (lv_at hl 0 rfl) ?_
  refine lv_iload_n hx hb dL_read_4 rfl (lv_at hl 1 rfl) ?_
  refine lv_iload_n hx hb dL_read_5 rfl (lv_at hl 2 rfl) ?_
  refine lv_iload_n hx hb dL_read_6 rfl (lv_at hl 3 rfl) ?_
  refine mu_V (As := [.int (nI i), .int (nI i), .int (nI k)]) (rest := [.int (nI 0), .ref ou]) (wc := [(lo, .inr (2, [.ref ra, .ref d0, .ref b0, .ref t0, .ref r0])), (ra, .inl (T 2, 6, .inr (.inr (.inr (.inr (fun j => some (rd j))))))), (r0, .inr (1, [.ref fr, .int B0, .int hd0])), (fr, .inr (0, [.ref fq, .int (nI rn)])), (fq, .inl (T 0, 440, .inl rf)), (rd i, .inr (0, [.ref q0, .int (nI n)])), (q0, .inl (T 0, 440, .inl f))]) (wr := [(ou, .inl (T 3, 1, .inr (.inl o)))]) ⟨hx, hb, hml, hown, hts⟩ (c_read_a l D T g s.heap.size lo ra d0 b0 t0 r0 rd fr fq rf rn B0 hd0 i q0 f n b (hb9) (hi) k (hk) (hw) (hu)) (cwV 3 hts gL_read_X5_read rfl rfl rfl (by decide +kernel) ⟨Nat.le_of_ble_eq_true rfl, Nat.le_of_ble_eq_true rfl⟩) (va_recv hK hP (ci := 2) (q0 := 0) rfl rfl) hP hD hK hG hS hA [0, 1, 2, 3, 4, 5, 6] [7] rfl (by decide) rfl (by decide) (by decide) ⟨Nat.le_of_ble_eq_true rfl, Nat.le_of_ble_eq_true rfl⟩ rfl hl.1 (Nat.le_of_ble_eq_true rfl) dL_read_7 rfl (fun u H locs hq6 hP hD hS => ?_)
  obtain ⟨F2_1, nF2_2, B2_3, hd2_4, G_5⟩ := u
  have hP : va_P D cls [(ou, .inl (T 3, 1, .inr (.inl o))), (lo, .inr (2, [.ref ra, .ref d0, .ref b0, .ref t0, .ref r0])), (ra, .inl (T 2, 6, .inr (.inr (.inr (.inr (fun j => some (rd j))))))), (r0, .inr (1, [.ref fr, .int B2_3, .int hd2_4])), (fr, .inr (0, [.ref fq, .int (nI nF2_2)])), (fq, .inl (T 0, 440, .inl F2_1)), (rd i, .inr (0, [.ref q0, .int (nI nF2_2)])), (q0, .inl (T 0, 440, .inl G_5))] H := hP
  have hD : va_D A [(ou, .inl (T 3, 1, .inr (.inl o))), (lo, .inr (2, [.ref ra, .ref d0, .ref b0, .ref t0, .ref r0])), (ra, .inl (T 2, 6, .inr (.inr (.inr (.inr (fun j => some (rd j))))))), (r0, .inr (1, [.ref fr, .int B2_3, .int hd2_4])), (fr, .inr (0, [.ref fq, .int (nI nF2_2)])), (fq, .inl (T 0, 440, .inl F2_1)), (rd i, .inr (0, [.ref q0, .int (nI nF2_2)])), (q0, .inl (T 0, 440, .inl G_5))] := hD
  have hp1 : nF2_2 = lF k n b * 6 / 8 ∧ RB G_5 nF2_2 (outB (lwF k n b)) := hq6
  refine W.eq (g2 := F0 m 10 ls [.int (nI nF2_2), .int (nI 0), .ref ou]) rfl ?_
  refine lv_i2l hx hb dL_read_10 (v := lN nF2_2) (nI_l (by omega)) ?_
  refine va_last hx hb hK hP hD hS 0 3 rfl rfl (vp_in_nI (by omega) (by omega)) dL_read_11 (fun H locs hP hD hS => ?_)
  rw [nI_clamp (by omega)] at hP hD
  have hP : va_P D cls [(ou, .inl (T 3, 1, .inr (.inl (vp_updL o 0 (lN nF2_2))))), (lo, .inr (2, [.ref ra, .ref d0, .ref b0, .ref t0, .ref r0])), (ra, .inl (T 2, 6, .inr (.inr (.inr (.inr (fun j => some (rd j))))))), (r0, .inr (1, [.ref fr, .int B2_3, .int hd2_4])), (fr, .inr (0, [.ref fq, .int (nI nF2_2)])), (fq, .inl (T 0, 440, .inl F2_1)), (rd i, .inr (0, [.ref q0, .int (nI nF2_2)])), (q0, .inl (T 0, 440, .inl G_5))] H := hP
  have hD : va_D A [(ou, .inl (T 3, 1, .inr (.inl (vp_updL o 0 (lN nF2_2))))), (lo, .inr (2, [.ref ra, .ref d0, .ref b0, .ref t0, .ref r0])), (ra, .inl (T 2, 6, .inr (.inr (.inr (.inr (fun j => some (rd j))))))), (r0, .inr (1, [.ref fr, .int B2_3, .int hd2_4])), (fr, .inr (0, [.ref fq, .int (nI nF2_2)])), (fq, .inl (T 0, 440, .inl F2_1)), (rd i, .inr (0, [.ref q0, .int (nI nF2_2)])), (q0, .inl (T 0, 440, .inl G_5))] := hD
  refine lv_goto (tgt := 27) hx hb dL_read_12 (by decide) ?_
  refine lv_iconst (v := (nI 0)) hx hb dL_read_27 (by decide +kernel) ?_
  have hP9 := hP.sub (ws' := [(lo, .inr (2, [.ref ra, .ref d0, .ref b0, .ref t0, .ref r0])), (ra, .inl (T 2, 6, .inr (.inr (.inr (.inr (fun j => some (rd j))))))), (r0, .inr (1, [.ref fr, .int B2_3, .int hd2_4])), (fr, .inr (0, [.ref fq, .int (nI nF2_2)])), (fq, .inl (T 0, 440, .inl F2_1)), (rd i, .inr (0, [.ref q0, .int (nI nF2_2)])), (q0, .inl (T 0, 440, .inl G_5)), (ou, .inl (T 3, 1, .inr (.inl (vp_updL o 0 (lN nF2_2)))))]) [1, 2, 3, 4, 5, 6, 7, 0] rfl
  have hD9 := hD.sub (ws' := [(lo, .inr (2, [.ref ra, .ref d0, .ref b0, .ref t0, .ref r0])), (ra, .inl (T 2, 6, .inr (.inr (.inr (.inr (fun j => some (rd j))))))), (r0, .inr (1, [.ref fr, .int B2_3, .int hd2_4])), (fr, .inr (0, [.ref fq, .int (nI nF2_2)])), (fq, .inl (T 0, 440, .inl F2_1)), (rd i, .inr (0, [.ref q0, .int (nI nF2_2)])), (q0, .inl (T 0, 440, .inl G_5)), (ou, .inl (T 3, 1, .inr (.inl (vp_updL o 0 (lN nF2_2)))))]) [1, 2, 3, 4, 5, 6, 7, 0] (by decide) rfl
  refine W.widen (k := 5) (n := 1106) (by omega) (by omega) ?_
  exact W.iret (v := (nI 0)) hx hb hr (fun t ht hW => ⟨⟨(F2_1, nF2_2, B2_3, hd2_4, G_5), rfl, show nF2_2 = lF k n b * 6 / 8 ∧ RB G_5 nF2_2 (outB (lwF k n b)) from hp1, (by rw [ht]; exact hP9), va_K.moved hW.alike hK, hD9⟩, hS.F ht⟩) hS.2.2 dL_read_28
set_option maxHeartbeats 4000000 in
set_option maxRecDepth 100000 in
theorem h_look_x1 (l : Launch) (D : va_G) (T : Nat → ClassId) (g : Nat → Nat) (sz : Nat) (hl9 : l.stackTraces = false) (lo : Nat) (ra : Nat) (d0 : Nat) (b0 : Nat) (t0 : Nat) (r0 : Nat) (rd : Nat → Nat) (i : Int32) (hi : i < 0 ∨ ¬ i < nI 6) (x0 : Int32) (ou : Nat) (o : Nat → Int64) : MUN l yL_look wsL_look ({ frames := 80, cells := 5, slots := 1106, locals := 4000 } : Room) D T g [.ref lo, .int i, .int x0, .ref ou] [(lo, .inr (2, [.ref ra, .ref d0, .ref b0, .ref t0, .ref r0])), (ra, .inl (T 2, 6, .inr (.inr (.inr (.inr (fun j => some (rd j))))))), (ou, .inl (T 3, 1, .inr (.inl o)))] sz (fun u : Unit => some (.int (nI 1))) (fun u : Unit => True) (fun u : Unit => [(lo, .inr (2, [.ref ra, .ref d0, .ref b0, .ref t0, .ref r0])), (ra, .inl (T 2, 6, .inr (.inr (.inr (.inr (fun j => some (rd j))))))), (ou, .inl (T 3, 1, .inr (.inl o)))]) 5 1106 := by
  refine va_MetW (hh := [(0, 10, 13, 13), (0, 10, 17, 15)]) (cc := cL_look) (maxL := 5) (ret := (some .int)) (by decide) rfl ?_
  intro p e s m args below meth c s₁ B hml hv
  obtain ⟨rfl, ⟨hsz, hP, hK, hD0, hG⟩, hN⟩ := hv
  have hx := B.exec
  have hb := B.bytes
  have hr := B.returns
  have hts := atoms_spec (ws := wsL_look) B.pre
  have hown : s.vm.findClass RL = some m.cls := findClass_of_methodNamed B.named
  have hlocks := B.notSynchronized
  have htab : c.exceptionTable.toList = tableOf [(0, 10, 13, 13), (0, 10, 17, 15)] := vx_table (x := yL_add) B (hts _ (List.mem_of_getElem? (i := 0) rfl))
  subst hsz
  have hD := hD0.self (sz := s.heap.size)
  generalize hAe : va_A [(lo, .inr (2, [.ref ra, .ref d0, .ref b0, .ref t0, .ref r0])), (ra, .inl (T 2, 6, .inr (.inr (.inr (.inr (fun j => some (rd j))))))), (ou, .inl (T 3, 1, .inr (.inl o)))] s.heap.size = A at hD hG ⊢
  have hA : ∀ q : Nat, s.heap.size ≤ q → A q := fun q h => by rw [← hAe]; exact Or.inr h
  have hS : va_S A s.heap s.heap [] := va_S.rf
  have hP : va_P D cls [(lo, .inr (2, [.ref ra, .ref d0, .ref b0, .ref t0, .ref r0])), (ra, .inl (T 2, 6, .inr (.inr (.inr (.inr (fun j => some (rd j))))))), (ou, .inl (T 3, 1, .inr (.inl o)))] s.heap := hP
  have hl := lv_entry ([.ref lo, .int i, .int x0, .ref ou]) (n := 5) (Nat.le_of_ble_eq_true rfl)
  rw [lg_entry_eq]
  generalize (lg_sl ([.ref lo, .int i, .int x0, .ref ou]) ++ List.replicate (5 - (lg_sl ([.ref lo, .int i, .int x0, .ref ou])).length) Slot.unset).toArray = ls at hl ⊢
  have hl : lv_has ls 5 [(0, .ref lo), (1, .int i), (2, .int x0), (3, .ref ou)] := hl
  refine lv_aload_n hx hb dL_look_0 rfl (lv_at hl 3 rfl) ?_
  refine lv_iconst (v := (nI 0)) hx hb dL_look_1 (by decide +kernel) ?_
  refine lv_aload_n hx hb dL_look_2 rfl (lv_at hl 0 rfl) ?_
  refine lv_iload_n hx hb dL_look_3 rfl (lv_at hl 1 rfl) ?_
  refine lv_iload_n hx hb dL_look_4 rfl (lv_at hl 2 rfl) ?_
  refine tc_V (hpc := 13) (As := [.int i, .int x0]) (rest := [.int (nI 0), .ref ou]) (wc := [(lo, .inr (2, [.ref ra, .ref d0, .ref b0, .ref t0, .ref r0])), (ra, .inl (T 2, 6, .inr (.inr (.inr (.inr (fun j => some (rd j)))))))]) (wr := [(ou, .inl (T 3, 1, .inr (.inl o)))]) ⟨hx, hb, hml, hown, hts⟩ (c_look_x1 l D T g s.heap.size (hl9) lo ra d0 b0 t0 r0 rd i (hi) x0) (cwV 2 hts gL_look_X5_look rfl rfl rfl (by decide +kernel) ⟨Nat.le_of_ble_eq_true rfl, Nat.le_of_ble_eq_true rfl⟩) (va_recv hK hP (ci := 2) (q0 := 0) rfl rfl) hP hD hK hG hS hA [0, 1] [2] rfl (by decide) rfl (by decide) (by decide) ⟨Nat.le_of_ble_eq_true rfl, Nat.le_of_ble_eq_true rfl⟩ rfl hl.1 (Nat.le_of_ble_eq_true rfl) dL_look_5 rfl (fun H1 locs1 q9 ce h1 h2 h3 k9 => vx_catch (name := "java/lang/IndexOutOfBoundsException") hown [] ⟨0, 10, 13, 13⟩ [⟨0, 10, 17, 15⟩] (htab.trans rfl) (fun _ h => absurd h List.not_mem_nil) (by decide) (by decide) (hts _ (List.mem_of_getElem? (i := 1) rfl)) (va_Yc.word (hN.2 _ (List.mem_of_getElem? (i := 0) rfl))) h1 h2 h3 k9) (fun u q9 H locs hq1 hP hD hS => ?_)
  refine W.widen (k := 1) (n := 6) (Nat.le_of_ble_eq_true rfl) (Nat.le_of_ble_eq_true rfl) ?_
  have hP : va_P D cls [(ou, .inl (T 3, 1, .inr (.inl o))), (lo, .inr (2, [.ref ra, .ref d0, .ref b0, .ref t0, .ref r0])), (ra, .inl (T 2, 6, .inr (.inr (.inr (.inr (fun j => some (rd j)))))))] H := hP
  have hD : va_D A [(ou, .inl (T 3, 1, .inr (.inl o))), (lo, .inr (2, [.ref ra, .ref d0, .ref b0, .ref t0, .ref r0])), (ra, .inl (T 2, 6, .inr (.inr (.inr (.inr (fun j => some (rd j)))))))] := hD
  refine lv_astore (lv' := [(4, .ref q9), (0, .ref lo), (1, .int i), (2, .int x0), (3, .ref ou)]) hx hb dL_look_13 hl (by decide) rfl (fun ls hl => ?_)
  refine lv_iconst (v := (nI 1)) hx hb dL_look_15 (by decide +kernel) ?_
  have hP9 := hP.sub (ws' := [(lo, .inr (2, [.ref ra, .ref d0, .ref b0, .ref t0, .ref r0])), (ra, .inl (T 2, 6, .inr (.inr (.inr (.inr (fun j => some (rd j))))))), (ou, .inl (T 3, 1, .inr (.inl o)))]) [1, 2, 0] rfl
  have hD9 := hD.sub (ws' := [(lo, .inr (2, [.ref ra, .ref d0, .ref b0, .ref t0, .ref r0])), (ra, .inl (T 2, 6, .inr (.inr (.inr (.inr (fun j => some (rd j))))))), (ou, .inl (T 3, 1, .inr (.inl o)))]) [1, 2, 0] (by decide) rfl
  refine W.widen (k := 5) (n := 1106) (by omega) (by omega) ?_
  exact W.iret (v := (nI 1)) hx hb hr (fun t ht hW => ⟨⟨(), rfl, trivial, (by rw [ht]; exact hP9), va_K.moved hW.alike hK, hD9⟩, hS.F ht⟩) hS.2.2 dL_look_16
set_option maxHeartbeats 4000000 in
set_option maxRecDepth 100000 in
theorem h_look_x2 (l : Launch) (D : va_G) (T : Nat → ClassId) (g : Nat → Nat) (sz : Nat) (hl9 : l.stackTraces = false) (lo : Nat) (ra : Nat) (d0 : Nat) (b0 : Nat) (t0 : Nat) (r0 : Nat) (rd : Nat → Nat) (i : Nat) (q0 : Nat) (f : Nat → Int32) (n : Nat) (hi : i < 6) (k : Int32) (hk : k < 0 ∨ ¬ k < nI 3) (ou : Nat) (o : Nat → Int64) : MUN l yL_look wsL_look ({ frames := 80, cells := 5, slots := 1106, locals := 4000 } : Room) D T g [.ref lo, .int (nI i), .int k, .ref ou] [(lo, .inr (2, [.ref ra, .ref d0, .ref b0, .ref t0, .ref r0])), (ra, .inl (T 2, 6, .inr (.inr (.inr (.inr (fun j => some (rd j))))))), (rd i, .inr (0, [.ref q0, .int (nI n)])), (q0, .inl (T 0, 440, .inl f)), (ou, .inl (T 3, 1, .inr (.inl o)))] sz (fun u : Unit => some (.int (nI 2))) (fun u : Unit => True) (fun u : Unit => [(lo, .inr (2, [.ref ra, .ref d0, .ref b0, .ref t0, .ref r0])), (ra, .inl (T 2, 6, .inr (.inr (.inr (.inr (fun j => some (rd j))))))), (rd i, .inr (0, [.ref q0, .int (nI n)])), (q0, .inl (T 0, 440, .inl f)), (ou, .inl (T 3, 1, .inr (.inl o)))]) 5 1106 := by
  refine va_MetW (hh := [(0, 10, 13, 13), (0, 10, 17, 15)]) (cc := cL_look) (maxL := 5) (ret := (some .int)) (by decide) rfl ?_
  intro p e s m args below meth c s₁ B hml hv
  obtain ⟨rfl, ⟨hsz, hP, hK, hD0, hG⟩, hN⟩ := hv
  have hx := B.exec
  have hb := B.bytes
  have hr := B.returns
  have hts := atoms_spec (ws := wsL_look) B.pre
  have hown : s.vm.findClass RL = some m.cls := findClass_of_methodNamed B.named
  have hlocks := B.notSynchronized
  have htab : c.exceptionTable.toList = tableOf [(0, 10, 13, 13), (0, 10, 17, 15)] := vx_table (x := yL_add) B (hts _ (List.mem_of_getElem? (i := 0) rfl))
  subst hsz
  have hD := hD0.self (sz := s.heap.size)
  generalize hAe : va_A [(lo, .inr (2, [.ref ra, .ref d0, .ref b0, .ref t0, .ref r0])), (ra, .inl (T 2, 6, .inr (.inr (.inr (.inr (fun j => some (rd j))))))), (rd i, .inr (0, [.ref q0, .int (nI n)])), (q0, .inl (T 0, 440, .inl f)), (ou, .inl (T 3, 1, .inr (.inl o)))] s.heap.size = A at hD hG ⊢
  have hA : ∀ q : Nat, s.heap.size ≤ q → A q := fun q h => by rw [← hAe]; exact Or.inr h
  have hS : va_S A s.heap s.heap [] := va_S.rf
  have hP : va_P D cls [(lo, .inr (2, [.ref ra, .ref d0, .ref b0, .ref t0, .ref r0])), (ra, .inl (T 2, 6, .inr (.inr (.inr (.inr (fun j => some (rd j))))))), (rd i, .inr (0, [.ref q0, .int (nI n)])), (q0, .inl (T 0, 440, .inl f)), (ou, .inl (T 3, 1, .inr (.inl o)))] s.heap := hP
  have hl := lv_entry ([.ref lo, .int (nI i), .int k, .ref ou]) (n := 5) (Nat.le_of_ble_eq_true rfl)
  rw [lg_entry_eq]
  generalize (lg_sl ([.ref lo, .int (nI i), .int k, .ref ou]) ++ List.replicate (5 - (lg_sl ([.ref lo, .int (nI i), .int k, .ref ou])).length) Slot.unset).toArray = ls at hl ⊢
  have hl : lv_has ls 5 [(0, .ref lo), (1, .int (nI i)), (2, .int k), (3, .ref ou)] := hl
  refine lv_aload_n hx hb dL_look_0 rfl (lv_at hl 3 rfl) ?_
  refine lv_iconst (v := (nI 0)) hx hb dL_look_1 (by decide +kernel) ?_
  refine lv_aload_n hx hb dL_look_2 rfl (lv_at hl 0 rfl) ?_
  refine lv_iload_n hx hb dL_look_3 rfl (lv_at hl 1 rfl) ?_
  refine lv_iload_n hx hb dL_look_4 rfl (lv_at hl 2 rfl) ?_
  refine tc_V (hpc := 17) (As := [.int (nI i), .int k]) (rest := [.int (nI 0), .ref ou]) (wc := [(lo, .inr (2, [.ref ra, .ref d0, .ref b0, .ref t0, .ref r0])), (ra, .inl (T 2, 6, .inr (.inr (.inr (.inr (fun j => some (rd j))))))), (rd i, .inr (0, [.ref q0, .int (nI n)])), (q0, .inl (T 0, 440, .inl f))]) (wr := [(ou, .inl (T 3, 1, .inr (.inl o)))]) ⟨hx, hb, hml, hown, hts⟩ (c_look_x2 l D T g s.heap.size (hl9) lo ra d0 b0 t0 r0 rd i q0 f n (hi) k (hk)) (cwV 2 hts gL_look_X5_look rfl rfl rfl (by decide +kernel) ⟨Nat.le_of_ble_eq_true rfl, Nat.le_of_ble_eq_true rfl⟩) (va_recv hK hP (ci := 2) (q0 := 0) rfl rfl) hP hD hK hG hS hA [0, 1, 2, 3] [4] rfl (by decide) rfl (by decide) (by decide) ⟨Nat.le_of_ble_eq_true rfl, Nat.le_of_ble_eq_true rfl⟩ rfl hl.1 (Nat.le_of_ble_eq_true rfl) dL_look_5 rfl (fun H1 locs1 q9 ce h1 h2 h3 k9 => vx_catch (name := "java/lang/IllegalArgumentException") hown [⟨0, 10, 13, 13⟩] ⟨0, 10, 17, 15⟩ [] (htab.trans rfl) (List.forall_mem_cons.mpr ⟨Or.inr ⟨by decide, "java/lang/IndexOutOfBoundsException", (hts _ (List.mem_of_getElem? (i := 1) rfl)), hN.1 _ (List.mem_of_getElem? (i := 0) rfl)⟩, (fun _ h => absurd h List.not_mem_nil)⟩) (by decide) (by decide) (hts _ (List.mem_of_getElem? (i := 2) rfl)) (va_Yc.word (hN.2 _ (List.mem_of_getElem? (i := 1) rfl))) h1 h2 h3 k9) (fun u q9 H locs hq1 hP hD hS => ?_)
  refine W.widen (k := 1) (n := 6) (Nat.le_of_ble_eq_true rfl) (Nat.le_of_ble_eq_true rfl) ?_
  have hP : va_P D cls [(ou, .inl (T 3, 1, .inr (.inl o))), (lo, .inr (2, [.ref ra, .ref d0, .ref b0, .ref t0, .ref r0])), (ra, .inl (T 2, 6, .inr (.inr (.inr (.inr (fun j => some (rd j))))))), (rd i, .inr (0, [.ref q0, .int (nI n)])), (q0, .inl (T 0, 440, .inl f))] H := hP
  have hD : va_D A [(ou, .inl (T 3, 1, .inr (.inl o))), (lo, .inr (2, [.ref ra, .ref d0, .ref b0, .ref t0, .ref r0])), (ra, .inl (T 2, 6, .inr (.inr (.inr (.inr (fun j => some (rd j))))))), (rd i, .inr (0, [.ref q0, .int (nI n)])), (q0, .inl (T 0, 440, .inl f))] := hD
  refine lv_astore (lv' := [(4, .ref q9), (0, .ref lo), (1, .int (nI i)), (2, .int k), (3, .ref ou)]) hx hb dL_look_17 hl (by decide) rfl (fun ls hl => ?_)
  refine lv_iconst (v := (nI 2)) hx hb dL_look_19 (by decide +kernel) ?_
  have hP9 := hP.sub (ws' := [(lo, .inr (2, [.ref ra, .ref d0, .ref b0, .ref t0, .ref r0])), (ra, .inl (T 2, 6, .inr (.inr (.inr (.inr (fun j => some (rd j))))))), (rd i, .inr (0, [.ref q0, .int (nI n)])), (q0, .inl (T 0, 440, .inl f)), (ou, .inl (T 3, 1, .inr (.inl o)))]) [1, 2, 3, 4, 0] rfl
  have hD9 := hD.sub (ws' := [(lo, .inr (2, [.ref ra, .ref d0, .ref b0, .ref t0, .ref r0])), (ra, .inl (T 2, 6, .inr (.inr (.inr (.inr (fun j => some (rd j))))))), (rd i, .inr (0, [.ref q0, .int (nI n)])), (q0, .inl (T 0, 440, .inl f)), (ou, .inl (T 3, 1, .inr (.inl o)))]) [1, 2, 3, 4, 0] (by decide) rfl
  refine W.widen (k := 5) (n := 1106) (by omega) (by omega) ?_
  exact W.iret (v := (nI 2)) hx hb hr (fun t ht hW => ⟨⟨(), rfl, trivial, (by rw [ht]; exact hP9), va_K.moved hW.alike hK, hD9⟩, hS.F ht⟩) hS.2.2 dL_look_20
set_option maxHeartbeats 4000000 in
set_option maxRecDepth 100000 in
theorem h_look (l : Launch) (D : va_G) (T : Nat → ClassId) (g : Nat → Nat) (sz : Nat) (lo : Nat) (ra : Nat) (d0 : Nat) (b0 : Nat) (t0 : Nat) (r0 : Nat) (rd : Nat → Nat) (i : Nat) (q0 : Nat) (f : Nat → Int32) (n : Nat) (b : Nat → Nat) (hb9 : RB f n b) (hi : i < 6) (k : Nat) (hk : k < 3) (ou : Nat) (o : Nat → Int64) : MUN l yL_look wsL_look ({ frames := 80, cells := 5, slots := 1106, locals := 4000 } : Room) D T g [.ref lo, .int (nI i), .int (nI k), .ref ou] [(lo, .inr (2, [.ref ra, .ref d0, .ref b0, .ref t0, .ref r0])), (ra, .inl (T 2, 6, .inr (.inr (.inr (.inr (fun j => some (rd j))))))), (rd i, .inr (0, [.ref q0, .int (nI n)])), (q0, .inl (T 0, 440, .inl f)), (ou, .inl (T 3, 1, .inr (.inl o)))] sz (fun u : Unit => some (.int (nI 0))) (fun u : Unit => True) (fun u : Unit => [(lo, .inr (2, [.ref ra, .ref d0, .ref b0, .ref t0, .ref r0])), (ra, .inl (T 2, 6, .inr (.inr (.inr (.inr (fun j => some (rd j))))))), (rd i, .inr (0, [.ref q0, .int (nI n)])), (q0, .inl (T 0, 440, .inl f)), (ou, .inl (T 3, 1, .inr (.inl (vp_updL o 0 ((tlI k n b).toInt64)))))]) 5 1106 := by
  refine va_MetW (hh := [(0, 10, 13, 13), (0, 10, 17, 15)]) (cc := cL_look) (maxL := 5) (ret := (some .int)) (by decide) rfl ?_
  intro p e s m args below meth c s₁ B hml hv
  obtain ⟨rfl, ⟨hsz, hP, hK, hD0, hG⟩, hN⟩ := hv
  have hx := B.exec
  have hb := B.bytes
  have hr := B.returns
  have hts := atoms_spec (ws := wsL_look) B.pre
  have hown : s.vm.findClass RL = some m.cls := findClass_of_methodNamed B.named
  have hlocks := B.notSynchronized
  have htab : c.exceptionTable.toList = tableOf [(0, 10, 13, 13), (0, 10, 17, 15)] := vx_table (x := yL_add) B (hts _ (List.mem_of_getElem? (i := 0) rfl))
  subst hsz
  have hD := hD0.self (sz := s.heap.size)
  generalize hAe : va_A [(lo, .inr (2, [.ref ra, .ref d0, .ref b0, .ref t0, .ref r0])), (ra, .inl (T 2, 6, .inr (.inr (.inr (.inr (fun j => some (rd j))))))), (rd i, .inr (0, [.ref q0, .int (nI n)])), (q0, .inl (T 0, 440, .inl f)), (ou, .inl (T 3, 1, .inr (.inl o)))] s.heap.size = A at hD hG ⊢
  have hA : ∀ q : Nat, s.heap.size ≤ q → A q := fun q h => by rw [← hAe]; exact Or.inr h
  have hS : va_S A s.heap s.heap [] := va_S.rf
  have hP : va_P D cls [(lo, .inr (2, [.ref ra, .ref d0, .ref b0, .ref t0, .ref r0])), (ra, .inl (T 2, 6, .inr (.inr (.inr (.inr (fun j => some (rd j))))))), (rd i, .inr (0, [.ref q0, .int (nI n)])), (q0, .inl (T 0, 440, .inl f)), (ou, .inl (T 3, 1, .inr (.inl o)))] s.heap := hP
  have hl := lv_entry ([.ref lo, .int (nI i), .int (nI k), .ref ou]) (n := 5) (Nat.le_of_ble_eq_true rfl)
  rw [lg_entry_eq]
  generalize (lg_sl ([.ref lo, .int (nI i), .int (nI k), .ref ou]) ++ List.replicate (5 - (lg_sl ([.ref lo, .int (nI i), .int (nI k), .ref ou])).length) Slot.unset).toArray = ls at hl ⊢
  have hl : lv_has ls 5 [(0, .ref lo), (1, .int (nI i)), (2, .int (nI k)), (3, .ref ou)] := hl
  refine lv_aload_n hx hb dL_look_0 rfl (lv_at hl 3 rfl) ?_
  refine lv_iconst (v := (nI 0)) hx hb dL_look_1 (by decide +kernel) ?_
  refine lv_aload_n hx hb dL_look_2 rfl (lv_at hl 0 rfl) ?_
  refine lv_iload_n hx hb dL_look_3 rfl (lv_at hl 1 rfl) ?_
  refine lv_iload_n hx hb dL_look_4 rfl (lv_at hl 2 rfl) ?_
  refine ro_V (As := [.int (nI i), .int (nI k)]) (rest := [.int (nI 0), .ref ou]) (wc := [(lo, .inr (2, [.ref ra, .ref d0, .ref b0, .ref t0, .ref r0])), (ra, .inl (T 2, 6, .inr (.inr (.inr (.inr (fun j => some (rd j))))))), (rd i, .inr (0, [.ref q0, .int (nI n)])), (q0, .inl (T 0, 440, .inl f))]) (r := .int (tlI k n b)) ⟨hx, hb, hml, hown, hts⟩ (c_look l D T g lo ra d0 b0 t0 r0 rd i q0 f n b (hb9) (hi) k (hk)) (cwV 2 hts gL_look_X5_look rfl rfl rfl (by decide +kernel) ⟨Nat.le_of_ble_eq_true rfl, Nat.le_of_ble_eq_true rfl⟩) (va_recv hK hP (ci := 2) (q0 := 0) rfl rfl) hP hK hG hS [0, 1, 2, 3] rfl ⟨Nat.zero_le _, Nat.zero_le _⟩ rfl hl.1 (Nat.le_of_ble_eq_true rfl) dL_look_5 rfl ?_
  refine lv_i2l hx hb dL_look_8 rfl ?_
  refine va_last hx hb hK hP hD hS 4 3 rfl rfl (vp_in_nI (by omega) (by omega)) dL_look_9 (fun H locs hP hD hS => ?_)
  rw [nI_clamp (by omega)] at hP hD
  have hP : va_P D cls [(lo, .inr (2, [.ref ra, .ref d0, .ref b0, .ref t0, .ref r0])), (ra, .inl (T 2, 6, .inr (.inr (.inr (.inr (fun j => some (rd j))))))), (rd i, .inr (0, [.ref q0, .int (nI n)])), (q0, .inl (T 0, 440, .inl f)), (ou, .inl (T 3, 1, .inr (.inl (vp_updL o 0 ((tlI k n b).toInt64)))))] H := hP
  have hD : va_D A [(lo, .inr (2, [.ref ra, .ref d0, .ref b0, .ref t0, .ref r0])), (ra, .inl (T 2, 6, .inr (.inr (.inr (.inr (fun j => some (rd j))))))), (rd i, .inr (0, [.ref q0, .int (nI n)])), (q0, .inl (T 0, 440, .inl f)), (ou, .inl (T 3, 1, .inr (.inl (vp_updL o 0 ((tlI k n b).toInt64)))))] := hD
  refine lv_goto (tgt := 21) hx hb dL_look_10 (by decide) ?_
  refine lv_iconst (v := (nI 0)) hx hb dL_look_21 (by decide +kernel) ?_
  have hP9 := hP.sub (ws' := [(lo, .inr (2, [.ref ra, .ref d0, .ref b0, .ref t0, .ref r0])), (ra, .inl (T 2, 6, .inr (.inr (.inr (.inr (fun j => some (rd j))))))), (rd i, .inr (0, [.ref q0, .int (nI n)])), (q0, .inl (T 0, 440, .inl f)), (ou, .inl (T 3, 1, .inr (.inl (vp_updL o 0 ((tlI k n b).toInt64)))))]) [0, 1, 2, 3, 4] rfl
  have hD9 := hD.sub (ws' := [(lo, .inr (2, [.ref ra, .ref d0, .ref b0, .ref t0, .ref r0])), (ra, .inl (T 2, 6, .inr (.inr (.inr (.inr (fun j => some (rd j))))))), (rd i, .inr (0, [.ref q0, .int (nI n)])), (q0, .inl (T 0, 440, .inl f)), (ou, .inl (T 3, 1, .inr (.inl (vp_updL o 0 ((tlI k n b).toInt64)))))]) [0, 1, 2, 3, 4] (by decide) rfl
  refine W.widen (k := 5) (n := 1106) (by omega) (by omega) ?_
  exact W.iret (v := (nI 0)) hx hb hr (fun t ht hW => ⟨⟨(), rfl, trivial, (by rw [ht]; exact hP9), va_K.moved hW.alike hK, hD9⟩, hS.F ht⟩) hS.2.2 dL_look_22
set_option maxHeartbeats 4000000 in
set_option maxRecDepth 100000 in
theorem h_letters_x1 (l : Launch) (D : va_G) (T : Nat → ClassId) (g : Nat → Nat) (sz : Nat) (hl9 : l.stackTraces = false) (lo : Nat) (ra : Nat) (d0 : Nat) (b0 : Nat) (t0 : Nat) (r0 : Nat) (rd : Nat → Nat) (i : Int32) (hi : i < 0 ∨ ¬ i < nI 6) (x0 : Int32) (ou : Nat) (o : Nat → Int64) : MUN l yL_letters wsL_letters ({ frames := 80, cells := 5, slots := 1106, locals := 4000 } : Room) D T g [.ref lo, .int i, .int x0, .ref ou] [(lo, .inr (2, [.ref ra, .ref d0, .ref b0, .ref t0, .ref r0])), (ra, .inl (T 2, 6, .inr (.inr (.inr (.inr (fun j => some (rd j))))))), (ou, .inl (T 3, 1, .inr (.inl o)))] sz (fun u : Unit => some (.int (nI 1))) (fun u : Unit => True) (fun u : Unit => [(lo, .inr (2, [.ref ra, .ref d0, .ref b0, .ref t0, .ref r0])), (ra, .inl (T 2, 6, .inr (.inr (.inr (.inr (fun j => some (rd j))))))), (ou, .inl (T 3, 1, .inr (.inl o)))]) 5 1106 := by
  refine va_MetW (hh := [(0, 10, 13, 13), (0, 10, 17, 15)]) (cc := cL_letters) (maxL := 5) (ret := (some .int)) (by decide) rfl ?_
  intro p e s m args below meth c s₁ B hml hv
  obtain ⟨rfl, ⟨hsz, hP, hK, hD0, hG⟩, hN⟩ := hv
  have hx := B.exec
  have hb := B.bytes
  have hr := B.returns
  have hts := atoms_spec (ws := wsL_letters) B.pre
  have hown : s.vm.findClass RL = some m.cls := findClass_of_methodNamed B.named
  have hlocks := B.notSynchronized
  have htab : c.exceptionTable.toList = tableOf [(0, 10, 13, 13), (0, 10, 17, 15)] := vx_table (x := yL_add) B (hts _ (List.mem_of_getElem? (i := 0) rfl))
  subst hsz
  have hD := hD0.self (sz := s.heap.size)
  generalize hAe : va_A [(lo, .inr (2, [.ref ra, .ref d0, .ref b0, .ref t0, .ref r0])), (ra, .inl (T 2, 6, .inr (.inr (.inr (.inr (fun j => some (rd j))))))), (ou, .inl (T 3, 1, .inr (.inl o)))] s.heap.size = A at hD hG ⊢
  have hA : ∀ q : Nat, s.heap.size ≤ q → A q := fun q h => by rw [← hAe]; exact Or.inr h
  have hS : va_S A s.heap s.heap [] := va_S.rf
  have hP : va_P D cls [(lo, .inr (2, [.ref ra, .ref d0, .ref b0, .ref t0, .ref r0])), (ra, .inl (T 2, 6, .inr (.inr (.inr (.inr (fun j => some (rd j))))))), (ou, .inl (T 3, 1, .inr (.inl o)))] s.heap := hP
  have hl := lv_entry ([.ref lo, .int i, .int x0, .ref ou]) (n := 5) (Nat.le_of_ble_eq_true rfl)
  rw [lg_entry_eq]
  generalize (lg_sl ([.ref lo, .int i, .int x0, .ref ou]) ++ List.replicate (5 - (lg_sl ([.ref lo, .int i, .int x0, .ref ou])).length) Slot.unset).toArray = ls at hl ⊢
  have hl : lv_has ls 5 [(0, .ref lo), (1, .int i), (2, .int x0), (3, .ref ou)] := hl
  refine lv_aload_n hx hb dL_letters_0 rfl (lv_at hl 3 rfl) ?_
  refine lv_iconst (v := (nI 0)) hx hb dL_letters_1 (by decide +kernel) ?_
  refine lv_aload_n hx hb dL_letters_2 rfl (lv_at hl 0 rfl) ?_
  refine lv_iload_n hx hb dL_letters_3 rfl (lv_at hl 1 rfl) ?_
  refine lv_iload_n hx hb dL_letters_4 rfl (lv_at hl 2 rfl) ?_
  refine tc_V (hpc := 13) (As := [.int i, .int x0]) (rest := [.int (nI 0), .ref ou]) (wc := [(lo, .inr (2, [.ref ra, .ref d0, .ref b0, .ref t0, .ref r0])), (ra, .inl (T 2, 6, .inr (.inr (.inr (.inr (fun j => some (rd j)))))))]) (wr := [(ou, .inl (T 3, 1, .inr (.inl o)))]) ⟨hx, hb, hml, hown, hts⟩ (c_letters_x1 l D T g s.heap.size (hl9) lo ra d0 b0 t0 r0 rd i (hi) x0) (cwV 2 hts gL_letters_X5_letters rfl rfl rfl (by decide +kernel) ⟨Nat.le_of_ble_eq_true rfl, Nat.le_of_ble_eq_true rfl⟩) (va_recv hK hP (ci := 2) (q0 := 0) rfl rfl) hP hD hK hG hS hA [0, 1] [2] rfl (by decide) rfl (by decide) (by decide) ⟨Nat.le_of_ble_eq_true rfl, Nat.le_of_ble_eq_true rfl⟩ rfl hl.1 (Nat.le_of_ble_eq_true rfl) dL_letters_5 rfl (fun H1 locs1 q9 ce h1 h2 h3 k9 => vx_catch (name := "java/lang/IndexOutOfBoundsException") hown [] ⟨0, 10, 13, 13⟩ [⟨0, 10, 17, 15⟩] (htab.trans rfl) (fun _ h => absurd h List.not_mem_nil) (by decide) (by decide) (hts _ (List.mem_of_getElem? (i := 1) rfl)) (va_Yc.word (hN.2 _ (List.mem_of_getElem? (i := 0) rfl))) h1 h2 h3 k9) (fun u q9 H locs hq1 hP hD hS => ?_)
  refine W.widen (k := 1) (n := 6) (Nat.le_of_ble_eq_true rfl) (Nat.le_of_ble_eq_true rfl) ?_
  have hP : va_P D cls [(ou, .inl (T 3, 1, .inr (.inl o))), (lo, .inr (2, [.ref ra, .ref d0, .ref b0, .ref t0, .ref r0])), (ra, .inl (T 2, 6, .inr (.inr (.inr (.inr (fun j => some (rd j)))))))] H := hP
  have hD : va_D A [(ou, .inl (T 3, 1, .inr (.inl o))), (lo, .inr (2, [.ref ra, .ref d0, .ref b0, .ref t0, .ref r0])), (ra, .inl (T 2, 6, .inr (.inr (.inr (.inr (fun j => some (rd j)))))))] := hD
  refine lv_astore (lv' := [(4, .ref q9), (0, .ref lo), (1, .int i), (2, .int x0), (3, .ref ou)]) hx hb dL_letters_13 hl (by decide) rfl (fun ls hl => ?_)
  refine lv_iconst (v := (nI 1)) hx hb dL_letters_15 (by decide +kernel) ?_
  have hP9 := hP.sub (ws' := [(lo, .inr (2, [.ref ra, .ref d0, .ref b0, .ref t0, .ref r0])), (ra, .inl (T 2, 6, .inr (.inr (.inr (.inr (fun j => some (rd j))))))), (ou, .inl (T 3, 1, .inr (.inl o)))]) [1, 2, 0] rfl
  have hD9 := hD.sub (ws' := [(lo, .inr (2, [.ref ra, .ref d0, .ref b0, .ref t0, .ref r0])), (ra, .inl (T 2, 6, .inr (.inr (.inr (.inr (fun j => some (rd j))))))), (ou, .inl (T 3, 1, .inr (.inl o)))]) [1, 2, 0] (by decide) rfl
  refine W.widen (k := 5) (n := 1106) (by omega) (by omega) ?_
  exact W.iret (v := (nI 1)) hx hb hr (fun t ht hW => ⟨⟨(), rfl, trivial, (by rw [ht]; exact hP9), va_K.moved hW.alike hK, hD9⟩, hS.F ht⟩) hS.2.2 dL_letters_16
set_option maxHeartbeats 4000000 in
set_option maxRecDepth 100000 in
theorem h_letters_x2 (l : Launch) (D : va_G) (T : Nat → ClassId) (g : Nat → Nat) (sz : Nat) (hl9 : l.stackTraces = false) (lo : Nat) (ra : Nat) (d0 : Nat) (b0 : Nat) (t0 : Nat) (r0 : Nat) (rd : Nat → Nat) (i : Nat) (q0 : Nat) (f : Nat → Int32) (n : Nat) (hi : i < 6) (k : Int32) (hk : k < 0 ∨ ¬ k < nI 3) (ou : Nat) (o : Nat → Int64) : MUN l yL_letters wsL_letters ({ frames := 80, cells := 5, slots := 1106, locals := 4000 } : Room) D T g [.ref lo, .int (nI i), .int k, .ref ou] [(lo, .inr (2, [.ref ra, .ref d0, .ref b0, .ref t0, .ref r0])), (ra, .inl (T 2, 6, .inr (.inr (.inr (.inr (fun j => some (rd j))))))), (rd i, .inr (0, [.ref q0, .int (nI n)])), (q0, .inl (T 0, 440, .inl f)), (ou, .inl (T 3, 1, .inr (.inl o)))] sz (fun u : Unit => some (.int (nI 2))) (fun u : Unit => True) (fun u : Unit => [(lo, .inr (2, [.ref ra, .ref d0, .ref b0, .ref t0, .ref r0])), (ra, .inl (T 2, 6, .inr (.inr (.inr (.inr (fun j => some (rd j))))))), (rd i, .inr (0, [.ref q0, .int (nI n)])), (q0, .inl (T 0, 440, .inl f)), (ou, .inl (T 3, 1, .inr (.inl o)))]) 5 1106 := by
  refine va_MetW (hh := [(0, 10, 13, 13), (0, 10, 17, 15)]) (cc := cL_letters) (maxL := 5) (ret := (some .int)) (by decide) rfl ?_
  intro p e s m args below meth c s₁ B hml hv
  obtain ⟨rfl, ⟨hsz, hP, hK, hD0, hG⟩, hN⟩ := hv
  have hx := B.exec
  have hb := B.bytes
  have hr := B.returns
  have hts := atoms_spec (ws := wsL_letters) B.pre
  have hown : s.vm.findClass RL = some m.cls := findClass_of_methodNamed B.named
  have hlocks := B.notSynchronized
  have htab : c.exceptionTable.toList = tableOf [(0, 10, 13, 13), (0, 10, 17, 15)] := vx_table (x := yL_add) B (hts _ (List.mem_of_getElem? (i := 0) rfl))
  subst hsz
  have hD := hD0.self (sz := s.heap.size)
  generalize hAe : va_A [(lo, .inr (2, [.ref ra, .ref d0, .ref b0, .ref t0, .ref r0])), (ra, .inl (T 2, 6, .inr (.inr (.inr (.inr (fun j => some (rd j))))))), (rd i, .inr (0, [.ref q0, .int (nI n)])), (q0, .inl (T 0, 440, .inl f)), (ou, .inl (T 3, 1, .inr (.inl o)))] s.heap.size = A at hD hG ⊢
  have hA : ∀ q : Nat, s.heap.size ≤ q → A q := fun q h => by rw [← hAe]; exact Or.inr h
  have hS : va_S A s.heap s.heap [] := va_S.rf
  have hP : va_P D cls [(lo, .inr (2, [.ref ra, .ref d0, .ref b0, .ref t0, .ref r0])), (ra, .inl (T 2, 6, .inr (.inr (.inr (.inr (fun j => some (rd j))))))), (rd i, .inr (0, [.ref q0, .int (nI n)])), (q0, .inl (T 0, 440, .inl f)), (ou, .inl (T 3, 1, .inr (.inl o)))] s.heap := hP
  have hl := lv_entry ([.ref lo, .int (nI i), .int k, .ref ou]) (n := 5) (Nat.le_of_ble_eq_true rfl)
  rw [lg_entry_eq]
  generalize (lg_sl ([.ref lo, .int (nI i), .int k, .ref ou]) ++ List.replicate (5 - (lg_sl ([.ref lo, .int (nI i), .int k, .ref ou])).length) Slot.unset).toArray = ls at hl ⊢
  have hl : lv_has ls 5 [(0, .ref lo), (1, .int (nI i)), (2, .int k), (3, .ref ou)] := hl
  refine lv_aload_n hx hb dL_letters_0 rfl (lv_at hl 3 rfl) ?_
  refine lv_iconst (v := (nI 0)) hx hb dL_letters_1 (by decide +kernel) ?_
  refine lv_aload_n hx hb dL_letters_2 rfl (lv_at hl 0 rfl) ?_
  refine lv_iload_n hx hb dL_letters_3 rfl (lv_at hl 1 rfl) ?_
  refine lv_iload_n hx hb dL_letters_4 rfl (lv_at hl 2 rfl) ?_
  refine tc_V (hpc := 17) (As := [.int (nI i), .int k]) (rest := [.int (nI 0), .ref ou]) (wc := [(lo, .inr (2, [.ref ra, .ref d0, .ref b0, .ref t0, .ref r0])), (ra, .inl (T 2, 6, .inr (.inr (.inr (.inr (fun j => some (rd j))))))), (rd i, .inr (0, [.ref q0, .int (nI n)])), (q0, .inl (T 0, 440, .inl f))]) (wr := [(ou, .inl (T 3, 1, .inr (.inl o)))]) ⟨hx, hb, hml, hown, hts⟩ (c_letters_x2 l D T g s.heap.size (hl9) lo ra d0 b0 t0 r0 rd i q0 f n (hi) k (hk)) (cwV 2 hts gL_letters_X5_letters rfl rfl rfl (by decide +kernel) ⟨Nat.le_of_ble_eq_true rfl, Nat.le_of_ble_eq_true rfl⟩) (va_recv hK hP (ci := 2) (q0 := 0) rfl rfl) hP hD hK hG hS hA [0, 1, 2, 3] [4] rfl (by decide) rfl (by decide) (by decide) ⟨Nat.le_of_ble_eq_true rfl, Nat.le_of_ble_eq_true rfl⟩ rfl hl.1 (Nat.le_of_ble_eq_true rfl) dL_letters_5 rfl (fun H1 locs1 q9 ce h1 h2 h3 k9 => vx_catch (name := "java/lang/IllegalArgumentException") hown [⟨0, 10, 13, 13⟩] ⟨0, 10, 17, 15⟩ [] (htab.trans rfl) (List.forall_mem_cons.mpr ⟨Or.inr ⟨by decide, "java/lang/IndexOutOfBoundsException", (hts _ (List.mem_of_getElem? (i := 1) rfl)), hN.1 _ (List.mem_of_getElem? (i := 0) rfl)⟩, (fun _ h => absurd h List.not_mem_nil)⟩) (by decide) (by decide) (hts _ (List.mem_of_getElem? (i := 2) rfl)) (va_Yc.word (hN.2 _ (List.mem_of_getElem? (i := 1) rfl))) h1 h2 h3 k9) (fun u q9 H locs hq1 hP hD hS => ?_)
  refine W.widen (k := 1) (n := 6) (Nat.le_of_ble_eq_true rfl) (Nat.le_of_ble_eq_true rfl) ?_
  have hP : va_P D cls [(ou, .inl (T 3, 1, .inr (.inl o))), (lo, .inr (2, [.ref ra, .ref d0, .ref b0, .ref t0, .ref r0])), (ra, .inl (T 2, 6, .inr (.inr (.inr (.inr (fun j => some (rd j))))))), (rd i, .inr (0, [.ref q0, .int (nI n)])), (q0, .inl (T 0, 440, .inl f))] H := hP
  have hD : va_D A [(ou, .inl (T 3, 1, .inr (.inl o))), (lo, .inr (2, [.ref ra, .ref d0, .ref b0, .ref t0, .ref r0])), (ra, .inl (T 2, 6, .inr (.inr (.inr (.inr (fun j => some (rd j))))))), (rd i, .inr (0, [.ref q0, .int (nI n)])), (q0, .inl (T 0, 440, .inl f))] := hD
  refine lv_astore (lv' := [(4, .ref q9), (0, .ref lo), (1, .int (nI i)), (2, .int k), (3, .ref ou)]) hx hb dL_letters_17 hl (by decide) rfl (fun ls hl => ?_)
  refine lv_iconst (v := (nI 2)) hx hb dL_letters_19 (by decide +kernel) ?_
  have hP9 := hP.sub (ws' := [(lo, .inr (2, [.ref ra, .ref d0, .ref b0, .ref t0, .ref r0])), (ra, .inl (T 2, 6, .inr (.inr (.inr (.inr (fun j => some (rd j))))))), (rd i, .inr (0, [.ref q0, .int (nI n)])), (q0, .inl (T 0, 440, .inl f)), (ou, .inl (T 3, 1, .inr (.inl o)))]) [1, 2, 3, 4, 0] rfl
  have hD9 := hD.sub (ws' := [(lo, .inr (2, [.ref ra, .ref d0, .ref b0, .ref t0, .ref r0])), (ra, .inl (T 2, 6, .inr (.inr (.inr (.inr (fun j => some (rd j))))))), (rd i, .inr (0, [.ref q0, .int (nI n)])), (q0, .inl (T 0, 440, .inl f)), (ou, .inl (T 3, 1, .inr (.inl o)))]) [1, 2, 3, 4, 0] (by decide) rfl
  refine W.widen (k := 5) (n := 1106) (by omega) (by omega) ?_
  exact W.iret (v := (nI 2)) hx hb hr (fun t ht hW => ⟨⟨(), rfl, trivial, (by rw [ht]; exact hP9), va_K.moved hW.alike hK, hD9⟩, hS.F ht⟩) hS.2.2 dL_letters_20
set_option maxHeartbeats 4000000 in
set_option maxRecDepth 100000 in
theorem h_letters (l : Launch) (D : va_G) (T : Nat → ClassId) (g : Nat → Nat) (sz : Nat) (lo : Nat) (ra : Nat) (d0 : Nat) (b0 : Nat) (t0 : Nat) (r0 : Nat) (rd : Nat → Nat) (i : Nat) (q0 : Nat) (f : Nat → Int32) (n : Nat) (b : Nat → Nat) (hb9 : RB f n b) (hi : i < 6) (k : Nat) (hk : k < 3) (ou : Nat) (o : Nat → Int64) : MUN l yL_letters wsL_letters ({ frames := 80, cells := 5, slots := 1106, locals := 4000 } : Room) D T g [.ref lo, .int (nI i), .int (nI k), .ref ou] [(lo, .inr (2, [.ref ra, .ref d0, .ref b0, .ref t0, .ref r0])), (ra, .inl (T 2, 6, .inr (.inr (.inr (.inr (fun j => some (rd j))))))), (rd i, .inr (0, [.ref q0, .int (nI n)])), (q0, .inl (T 0, 440, .inl f)), (ou, .inl (T 3, 1, .inr (.inl o)))] sz (fun u : Unit => some (.int (nI 0))) (fun u : Unit => True) (fun u : Unit => [(lo, .inr (2, [.ref ra, .ref d0, .ref b0, .ref t0, .ref r0])), (ra, .inl (T 2, 6, .inr (.inr (.inr (.inr (fun j => some (rd j))))))), (rd i, .inr (0, [.ref q0, .int (nI n)])), (q0, .inl (T 0, 440, .inl f)), (ou, .inl (T 3, 1, .inr (.inl (vp_updL o 0 (lN (ctN (ltB k b) n))))))]) 5 1106 := by
  refine va_MetW (hh := [(0, 10, 13, 13), (0, 10, 17, 15)]) (cc := cL_letters) (maxL := 5) (ret := (some .int)) (by decide) rfl ?_
  intro p e s m args below meth c s₁ B hml hv
  obtain ⟨rfl, ⟨hsz, hP, hK, hD0, hG⟩, hN⟩ := hv
  have hx := B.exec
  have hb := B.bytes
  have hr := B.returns
  have hts := atoms_spec (ws := wsL_letters) B.pre
  have hown : s.vm.findClass RL = some m.cls := findClass_of_methodNamed B.named
  have hlocks := B.notSynchronized
  have htab : c.exceptionTable.toList = tableOf [(0, 10, 13, 13), (0, 10, 17, 15)] := vx_table (x := yL_add) B (hts _ (List.mem_of_getElem? (i := 0) rfl))
  subst hsz
  have hD := hD0.self (sz := s.heap.size)
  generalize hAe : va_A [(lo, .inr (2, [.ref ra, .ref d0, .ref b0, .ref t0, .ref r0])), (ra, .inl (T 2, 6, .inr (.inr (.inr (.inr (fun j => some (rd j))))))), (rd i, .inr (0, [.ref q0, .int (nI n)])), (q0, .inl (T 0, 440, .inl f)), (ou, .inl (T 3, 1, .inr (.inl o)))] s.heap.size = A at hD hG ⊢
  have hA : ∀ q : Nat, s.heap.size ≤ q → A q := fun q h => by rw [← hAe]; exact Or.inr h
  have hS : va_S A s.heap s.heap [] := va_S.rf
  have hP : va_P D cls [(lo, .inr (2, [.ref ra, .ref d0, .ref b0, .ref t0, .ref r0])), (ra, .inl (T 2, 6, .inr (.inr (.inr (.inr (fun j => some (rd j))))))), (rd i, .inr (0, [.ref q0, .int (nI n)])), (q0, .inl (T 0, 440, .inl f)), (ou, .inl (T 3, 1, .inr (.inl o)))] s.heap := hP
  have hl := lv_entry ([.ref lo, .int (nI i), .int (nI k), .ref ou]) (n := 5) (Nat.le_of_ble_eq_true rfl)
  rw [lg_entry_eq]
  generalize (lg_sl ([.ref lo, .int (nI i), .int (nI k), .ref ou]) ++ List.replicate (5 - (lg_sl ([.ref lo, .int (nI i), .int (nI k), .ref ou])).length) Slot.unset).toArray = ls at hl ⊢
  have hl : lv_has ls 5 [(0, .ref lo), (1, .int (nI i)), (2, .int (nI k)), (3, .ref ou)] := hl
  have hn9 := hb9.1
  have hc9 := ctN_le (ltB k b) n
  refine lv_aload_n hx hb dL_letters_0 rfl (lv_at hl 3 rfl) ?_
  refine lv_iconst (v := (nI 0)) hx hb dL_letters_1 (by decide +kernel) ?_
  refine lv_aload_n hx hb dL_letters_2 rfl (lv_at hl 0 rfl) ?_
  refine lv_iload_n hx hb dL_letters_3 rfl (lv_at hl 1 rfl) ?_
  refine lv_iload_n hx hb dL_letters_4 rfl (lv_at hl 2 rfl) ?_
  refine ro_V (As := [.int (nI i), .int (nI k)]) (rest := [.int (nI 0), .ref ou]) (wc := [(lo, .inr (2, [.ref ra, .ref d0, .ref b0, .ref t0, .ref r0])), (ra, .inl (T 2, 6, .inr (.inr (.inr (.inr (fun j => some (rd j))))))), (rd i, .inr (0, [.ref q0, .int (nI n)])), (q0, .inl (T 0, 440, .inl f))]) (r := .int (nI (ctN (ltB k b) n))) ⟨hx, hb, hml, hown, hts⟩ (c_letters l D T g lo ra d0 b0 t0 r0 rd i q0 f n b (hb9) (hi) k (hk)) (cwV 2 hts gL_letters_X5_letters rfl rfl rfl (by decide +kernel) ⟨Nat.le_of_ble_eq_true rfl, Nat.le_of_ble_eq_true rfl⟩) (va_recv hK hP (ci := 2) (q0 := 0) rfl rfl) hP hK hG hS [0, 1, 2, 3] rfl ⟨Nat.zero_le _, Nat.zero_le _⟩ rfl hl.1 (Nat.le_of_ble_eq_true rfl) dL_letters_5 rfl ?_
  refine lv_i2l hx hb dL_letters_8 (v := lN (ctN (ltB k b) n)) (nI_l (by omega)) ?_
  refine va_last hx hb hK hP hD hS 4 3 rfl rfl (vp_in_nI (by omega) (by omega)) dL_letters_9 (fun H locs hP hD hS => ?_)
  rw [nI_clamp (by omega)] at hP hD
  have hP : va_P D cls [(lo, .inr (2, [.ref ra, .ref d0, .ref b0, .ref t0, .ref r0])), (ra, .inl (T 2, 6, .inr (.inr (.inr (.inr (fun j => some (rd j))))))), (rd i, .inr (0, [.ref q0, .int (nI n)])), (q0, .inl (T 0, 440, .inl f)), (ou, .inl (T 3, 1, .inr (.inl (vp_updL o 0 (lN (ctN (ltB k b) n))))))] H := hP
  have hD : va_D A [(lo, .inr (2, [.ref ra, .ref d0, .ref b0, .ref t0, .ref r0])), (ra, .inl (T 2, 6, .inr (.inr (.inr (.inr (fun j => some (rd j))))))), (rd i, .inr (0, [.ref q0, .int (nI n)])), (q0, .inl (T 0, 440, .inl f)), (ou, .inl (T 3, 1, .inr (.inl (vp_updL o 0 (lN (ctN (ltB k b) n))))))] := hD
  refine lv_goto (tgt := 21) hx hb dL_letters_10 (by decide) ?_
  refine lv_iconst (v := (nI 0)) hx hb dL_letters_21 (by decide +kernel) ?_
  have hP9 := hP.sub (ws' := [(lo, .inr (2, [.ref ra, .ref d0, .ref b0, .ref t0, .ref r0])), (ra, .inl (T 2, 6, .inr (.inr (.inr (.inr (fun j => some (rd j))))))), (rd i, .inr (0, [.ref q0, .int (nI n)])), (q0, .inl (T 0, 440, .inl f)), (ou, .inl (T 3, 1, .inr (.inl (vp_updL o 0 (lN (ctN (ltB k b) n))))))]) [0, 1, 2, 3, 4] rfl
  have hD9 := hD.sub (ws' := [(lo, .inr (2, [.ref ra, .ref d0, .ref b0, .ref t0, .ref r0])), (ra, .inl (T 2, 6, .inr (.inr (.inr (.inr (fun j => some (rd j))))))), (rd i, .inr (0, [.ref q0, .int (nI n)])), (q0, .inl (T 0, 440, .inl f)), (ou, .inl (T 3, 1, .inr (.inl (vp_updL o 0 (lN (ctN (ltB k b) n))))))]) [0, 1, 2, 3, 4] (by decide) rfl
  refine W.widen (k := 5) (n := 1106) (by omega) (by omega) ?_
  exact W.iret (v := (nI 0)) hx hb hr (fun t ht hW => ⟨⟨(), rfl, trivial, (by rw [ht]; exact hP9), va_K.moved hW.alike hK, hD9⟩, hS.F ht⟩) hS.2.2 dL_letters_22
set_option maxHeartbeats 4000000 in
set_option maxRecDepth 100000 in
theorem h_isWritten_x1 (l : Launch) (D : va_G) (T : Nat → ClassId) (g : Nat → Nat) (sz : Nat) (hl9 : l.stackTraces = false) (lo : Nat) (ra : Nat) (d0 : Nat) (b0 : Nat) (t0 : Nat) (r0 : Nat) (rd : Nat → Nat) (i : Int32) (hi : i < 0 ∨ ¬ i < nI 6) (x0 : Int32) (ou : Nat) (o : Nat → Int64) : MUN l yL_isWritten wsL_isWritten ({ frames := 80, cells := 5, slots := 1106, locals := 4000 } : Room) D T g [.ref lo, .int i, .int x0, .ref ou] [(lo, .inr (2, [.ref ra, .ref d0, .ref b0, .ref t0, .ref r0])), (ra, .inl (T 2, 6, .inr (.inr (.inr (.inr (fun j => some (rd j))))))), (ou, .inl (T 3, 1, .inr (.inl o)))] sz (fun u : Unit => some (.int (nI 1))) (fun u : Unit => True) (fun u : Unit => [(lo, .inr (2, [.ref ra, .ref d0, .ref b0, .ref t0, .ref r0])), (ra, .inl (T 2, 6, .inr (.inr (.inr (.inr (fun j => some (rd j))))))), (ou, .inl (T 3, 1, .inr (.inl o)))]) 5 1106 := by
  refine va_MetW (hh := [(0, 17, 20, 13), (0, 17, 24, 15)]) (cc := cL_isWritten) (maxL := 5) (ret := (some .int)) (by decide) rfl ?_
  intro p e s m args below meth c s₁ B hml hv
  obtain ⟨rfl, ⟨hsz, hP, hK, hD0, hG⟩, hN⟩ := hv
  have hx := B.exec
  have hb := B.bytes
  have hr := B.returns
  have hts := atoms_spec (ws := wsL_isWritten) B.pre
  have hown : s.vm.findClass RL = some m.cls := findClass_of_methodNamed B.named
  have hlocks := B.notSynchronized
  have htab : c.exceptionTable.toList = tableOf [(0, 17, 20, 13), (0, 17, 24, 15)] := vx_table (x := yL_add) B (hts _ (List.mem_of_getElem? (i := 0) rfl))
  subst hsz
  have hD := hD0.self (sz := s.heap.size)
  generalize hAe : va_A [(lo, .inr (2, [.ref ra, .ref d0, .ref b0, .ref t0, .ref r0])), (ra, .inl (T 2, 6, .inr (.inr (.inr (.inr (fun j => some (rd j))))))), (ou, .inl (T 3, 1, .inr (.inl o)))] s.heap.size = A at hD hG ⊢
  have hA : ∀ q : Nat, s.heap.size ≤ q → A q := fun q h => by rw [← hAe]; exact Or.inr h
  have hS : va_S A s.heap s.heap [] := va_S.rf
  have hP : va_P D cls [(lo, .inr (2, [.ref ra, .ref d0, .ref b0, .ref t0, .ref r0])), (ra, .inl (T 2, 6, .inr (.inr (.inr (.inr (fun j => some (rd j))))))), (ou, .inl (T 3, 1, .inr (.inl o)))] s.heap := hP
  have hl := lv_entry ([.ref lo, .int i, .int x0, .ref ou]) (n := 5) (Nat.le_of_ble_eq_true rfl)
  rw [lg_entry_eq]
  generalize (lg_sl ([.ref lo, .int i, .int x0, .ref ou]) ++ List.replicate (5 - (lg_sl ([.ref lo, .int i, .int x0, .ref ou])).length) Slot.unset).toArray = ls at hl ⊢
  have hl : lv_has ls 5 [(0, .ref lo), (1, .int i), (2, .int x0), (3, .ref ou)] := hl
  refine lv_aload_n hx hb dL_isWritten_0 rfl (lv_at hl 3 rfl) ?_
  refine lv_iconst (v := (nI 0)) hx hb dL_isWritten_1 (by decide +kernel) ?_
  refine lv_aload_n hx hb dL_isWritten_2 rfl (lv_at hl 0 rfl) ?_
  refine lv_iload_n hx hb dL_isWritten_3 rfl (lv_at hl 1 rfl) ?_
  refine lv_iload_n hx hb dL_isWritten_4 rfl (lv_at hl 2 rfl) ?_
  refine tc_V (hpc := 20) (As := [.int i, .int x0]) (rest := [.int (nI 0), .ref ou]) (wc := [(lo, .inr (2, [.ref ra, .ref d0, .ref b0, .ref t0, .ref r0])), (ra, .inl (T 2, 6, .inr (.inr (.inr (.inr (fun j => some (rd j)))))))]) (wr := [(ou, .inl (T 3, 1, .inr (.inl o)))]) ⟨hx, hb, hml, hown, hts⟩ (c_isWritten_x1 l D T g s.heap.size (hl9) lo ra d0 b0 t0 r0 rd i (hi) x0) (cwV 2 hts gL_isWritten_X5_isWritten rfl rfl rfl (by decide +kernel) ⟨Nat.le_of_ble_eq_true rfl, Nat.le_of_ble_eq_true rfl⟩) (va_recv hK hP (ci := 2) (q0 := 0) rfl rfl) hP hD hK hG hS hA [0, 1] [2] rfl (by decide) rfl (by decide) (by decide) ⟨Nat.le_of_ble_eq_true rfl, Nat.le_of_ble_eq_true rfl⟩ rfl hl.1 (Nat.le_of_ble_eq_true rfl) dL_isWritten_5 rfl (fun H1 locs1 q9 ce h1 h2 h3 k9 => vx_catch (name := "java/lang/IndexOutOfBoundsException") hown [] ⟨0, 17, 20, 13⟩ [⟨0, 17, 24, 15⟩] (htab.trans rfl) (fun _ h => absurd h List.not_mem_nil) (by decide) (by decide) (hts _ (List.mem_of_getElem? (i := 1) rfl)) (va_Yc.word (hN.2 _ (List.mem_of_getElem? (i := 0) rfl))) h1 h2 h3 k9) (fun u q9 H locs hq1 hP hD hS => ?_)
  refine W.widen (k := 1) (n := 6) (Nat.le_of_ble_eq_true rfl) (Nat.le_of_ble_eq_true rfl) ?_
  have hP : va_P D cls [(ou, .inl (T 3, 1, .inr (.inl o))), (lo, .inr (2, [.ref ra, .ref d0, .ref b0, .ref t0, .ref r0])), (ra, .inl (T 2, 6, .inr (.inr (.inr (.inr (fun j => some (rd j)))))))] H := hP
  have hD : va_D A [(ou, .inl (T 3, 1, .inr (.inl o))), (lo, .inr (2, [.ref ra, .ref d0, .ref b0, .ref t0, .ref r0])), (ra, .inl (T 2, 6, .inr (.inr (.inr (.inr (fun j => some (rd j)))))))] := hD
  refine lv_astore (lv' := [(4, .ref q9), (0, .ref lo), (1, .int i), (2, .int x0), (3, .ref ou)]) hx hb dL_isWritten_20 hl (by decide) rfl (fun ls hl => ?_)
  refine lv_iconst (v := (nI 1)) hx hb dL_isWritten_22 (by decide +kernel) ?_
  have hP9 := hP.sub (ws' := [(lo, .inr (2, [.ref ra, .ref d0, .ref b0, .ref t0, .ref r0])), (ra, .inl (T 2, 6, .inr (.inr (.inr (.inr (fun j => some (rd j))))))), (ou, .inl (T 3, 1, .inr (.inl o)))]) [1, 2, 0] rfl
  have hD9 := hD.sub (ws' := [(lo, .inr (2, [.ref ra, .ref d0, .ref b0, .ref t0, .ref r0])), (ra, .inl (T 2, 6, .inr (.inr (.inr (.inr (fun j => some (rd j))))))), (ou, .inl (T 3, 1, .inr (.inl o)))]) [1, 2, 0] (by decide) rfl
  refine W.widen (k := 5) (n := 1106) (by omega) (by omega) ?_
  exact W.iret (v := (nI 1)) hx hb hr (fun t ht hW => ⟨⟨(), rfl, trivial, (by rw [ht]; exact hP9), va_K.moved hW.alike hK, hD9⟩, hS.F ht⟩) hS.2.2 dL_isWritten_23
set_option maxHeartbeats 4000000 in
set_option maxRecDepth 100000 in
theorem h_isWritten_x2 (l : Launch) (D : va_G) (T : Nat → ClassId) (g : Nat → Nat) (sz : Nat) (hl9 : l.stackTraces = false) (lo : Nat) (ra : Nat) (d0 : Nat) (b0 : Nat) (t0 : Nat) (r0 : Nat) (rd : Nat → Nat) (i : Nat) (q0 : Nat) (f : Nat → Int32) (n : Nat) (hi : i < 6) (k : Int32) (hk : k < 0 ∨ ¬ k < nI 3) (ou : Nat) (o : Nat → Int64) : MUN l yL_isWritten wsL_isWritten ({ frames := 80, cells := 5, slots := 1106, locals := 4000 } : Room) D T g [.ref lo, .int (nI i), .int k, .ref ou] [(lo, .inr (2, [.ref ra, .ref d0, .ref b0, .ref t0, .ref r0])), (ra, .inl (T 2, 6, .inr (.inr (.inr (.inr (fun j => some (rd j))))))), (rd i, .inr (0, [.ref q0, .int (nI n)])), (q0, .inl (T 0, 440, .inl f)), (ou, .inl (T 3, 1, .inr (.inl o)))] sz (fun u : Unit => some (.int (nI 2))) (fun u : Unit => True) (fun u : Unit => [(lo, .inr (2, [.ref ra, .ref d0, .ref b0, .ref t0, .ref r0])), (ra, .inl (T 2, 6, .inr (.inr (.inr (.inr (fun j => some (rd j))))))), (rd i, .inr (0, [.ref q0, .int (nI n)])), (q0, .inl (T 0, 440, .inl f)), (ou, .inl (T 3, 1, .inr (.inl o)))]) 5 1106 := by
  refine va_MetW (hh := [(0, 17, 20, 13), (0, 17, 24, 15)]) (cc := cL_isWritten) (maxL := 5) (ret := (some .int)) (by decide) rfl ?_
  intro p e s m args below meth c s₁ B hml hv
  obtain ⟨rfl, ⟨hsz, hP, hK, hD0, hG⟩, hN⟩ := hv
  have hx := B.exec
  have hb := B.bytes
  have hr := B.returns
  have hts := atoms_spec (ws := wsL_isWritten) B.pre
  have hown : s.vm.findClass RL = some m.cls := findClass_of_methodNamed B.named
  have hlocks := B.notSynchronized
  have htab : c.exceptionTable.toList = tableOf [(0, 17, 20, 13), (0, 17, 24, 15)] := vx_table (x := yL_add) B (hts _ (List.mem_of_getElem? (i := 0) rfl))
  subst hsz
  have hD := hD0.self (sz := s.heap.size)
  generalize hAe : va_A [(lo, .inr (2, [.ref ra, .ref d0, .ref b0, .ref t0, .ref r0])), (ra, .inl (T 2, 6, .inr (.inr (.inr (.inr (fun j => some (rd j))))))), (rd i, .inr (0, [.ref q0, .int (nI n)])), (q0, .inl (T 0, 440, .inl f)), (ou, .inl (T 3, 1, .inr (.inl o)))] s.heap.size = A at hD hG ⊢
  have hA : ∀ q : Nat, s.heap.size ≤ q → A q := fun q h => by rw [← hAe]; exact Or.inr h
  have hS : va_S A s.heap s.heap [] := va_S.rf
  have hP : va_P D cls [(lo, .inr (2, [.ref ra, .ref d0, .ref b0, .ref t0, .ref r0])), (ra, .inl (T 2, 6, .inr (.inr (.inr (.inr (fun j => some (rd j))))))), (rd i, .inr (0, [.ref q0, .int (nI n)])), (q0, .inl (T 0, 440, .inl f)), (ou, .inl (T 3, 1, .inr (.inl o)))] s.heap := hP
  have hl := lv_entry ([.ref lo, .int (nI i), .int k, .ref ou]) (n := 5) (Nat.le_of_ble_eq_true rfl)
  rw [lg_entry_eq]
  generalize (lg_sl ([.ref lo, .int (nI i), .int k, .ref ou]) ++ List.replicate (5 - (lg_sl ([.ref lo, .int (nI i), .int k, .ref ou])).length) Slot.unset).toArray = ls at hl ⊢
  have hl : lv_has ls 5 [(0, .ref lo), (1, .int (nI i)), (2, .int k), (3, .ref ou)] := hl
  refine lv_aload_n hx hb dL_isWritten_0 rfl (lv_at hl 3 rfl) ?_
  refine lv_iconst (v := (nI 0)) hx hb dL_isWritten_1 (by decide +kernel) ?_
  refine lv_aload_n hx hb dL_isWritten_2 rfl (lv_at hl 0 rfl) ?_
  refine lv_iload_n hx hb dL_isWritten_3 rfl (lv_at hl 1 rfl) ?_
  refine lv_iload_n hx hb dL_isWritten_4 rfl (lv_at hl 2 rfl) ?_
  refine tc_V (hpc := 24) (As := [.int (nI i), .int k]) (rest := [.int (nI 0), .ref ou]) (wc := [(lo, .inr (2, [.ref ra, .ref d0, .ref b0, .ref t0, .ref r0])), (ra, .inl (T 2, 6, .inr (.inr (.inr (.inr (fun j => some (rd j))))))), (rd i, .inr (0, [.ref q0, .int (nI n)])), (q0, .inl (T 0, 440, .inl f))]) (wr := [(ou, .inl (T 3, 1, .inr (.inl o)))]) ⟨hx, hb, hml, hown, hts⟩ (c_isWritten_x2 l D T g s.heap.size (hl9) lo ra d0 b0 t0 r0 rd i q0 f n (hi) k (hk)) (cwV 2 hts gL_isWritten_X5_isWritten rfl rfl rfl (by decide +kernel) ⟨Nat.le_of_ble_eq_true rfl, Nat.le_of_ble_eq_true rfl⟩) (va_recv hK hP (ci := 2) (q0 := 0) rfl rfl) hP hD hK hG hS hA [0, 1, 2, 3] [4] rfl (by decide) rfl (by decide) (by decide) ⟨Nat.le_of_ble_eq_true rfl, Nat.le_of_ble_eq_true rfl⟩ rfl hl.1 (Nat.le_of_ble_eq_true rfl) dL_isWritten_5 rfl (fun H1 locs1 q9 ce h1 h2 h3 k9 => vx_catch (name := "java/lang/IllegalArgumentException") hown [⟨0, 17, 20, 13⟩] ⟨0, 17, 24, 15⟩ [] (htab.trans rfl) (List.forall_mem_cons.mpr ⟨Or.inr ⟨by decide, "java/lang/IndexOutOfBoundsException", (hts _ (List.mem_of_getElem? (i := 1) rfl)), hN.1 _ (List.mem_of_getElem? (i := 0) rfl)⟩, (fun _ h => absurd h List.not_mem_nil)⟩) (by decide) (by decide) (hts _ (List.mem_of_getElem? (i := 2) rfl)) (va_Yc.word (hN.2 _ (List.mem_of_getElem? (i := 1) rfl))) h1 h2 h3 k9) (fun u q9 H locs hq1 hP hD hS => ?_)
  refine W.widen (k := 1) (n := 6) (Nat.le_of_ble_eq_true rfl) (Nat.le_of_ble_eq_true rfl) ?_
  have hP : va_P D cls [(ou, .inl (T 3, 1, .inr (.inl o))), (lo, .inr (2, [.ref ra, .ref d0, .ref b0, .ref t0, .ref r0])), (ra, .inl (T 2, 6, .inr (.inr (.inr (.inr (fun j => some (rd j))))))), (rd i, .inr (0, [.ref q0, .int (nI n)])), (q0, .inl (T 0, 440, .inl f))] H := hP
  have hD : va_D A [(ou, .inl (T 3, 1, .inr (.inl o))), (lo, .inr (2, [.ref ra, .ref d0, .ref b0, .ref t0, .ref r0])), (ra, .inl (T 2, 6, .inr (.inr (.inr (.inr (fun j => some (rd j))))))), (rd i, .inr (0, [.ref q0, .int (nI n)])), (q0, .inl (T 0, 440, .inl f))] := hD
  refine lv_astore (lv' := [(4, .ref q9), (0, .ref lo), (1, .int (nI i)), (2, .int k), (3, .ref ou)]) hx hb dL_isWritten_24 hl (by decide) rfl (fun ls hl => ?_)
  refine lv_iconst (v := (nI 2)) hx hb dL_isWritten_26 (by decide +kernel) ?_
  have hP9 := hP.sub (ws' := [(lo, .inr (2, [.ref ra, .ref d0, .ref b0, .ref t0, .ref r0])), (ra, .inl (T 2, 6, .inr (.inr (.inr (.inr (fun j => some (rd j))))))), (rd i, .inr (0, [.ref q0, .int (nI n)])), (q0, .inl (T 0, 440, .inl f)), (ou, .inl (T 3, 1, .inr (.inl o)))]) [1, 2, 3, 4, 0] rfl
  have hD9 := hD.sub (ws' := [(lo, .inr (2, [.ref ra, .ref d0, .ref b0, .ref t0, .ref r0])), (ra, .inl (T 2, 6, .inr (.inr (.inr (.inr (fun j => some (rd j))))))), (rd i, .inr (0, [.ref q0, .int (nI n)])), (q0, .inl (T 0, 440, .inl f)), (ou, .inl (T 3, 1, .inr (.inl o)))]) [1, 2, 3, 4, 0] (by decide) rfl
  refine W.widen (k := 5) (n := 1106) (by omega) (by omega) ?_
  exact W.iret (v := (nI 2)) hx hb hr (fun t ht hW => ⟨⟨(), rfl, trivial, (by rw [ht]; exact hP9), va_K.moved hW.alike hK, hD9⟩, hS.F ht⟩) hS.2.2 dL_isWritten_27
set_option maxHeartbeats 4000000 in
set_option maxRecDepth 100000 in
theorem h_isWritten_n (l : Launch) (D : va_G) (T : Nat → ClassId) (g : Nat → Nat) (sz : Nat) (lo : Nat) (ra : Nat) (d0 : Nat) (b0 : Nat) (t0 : Nat) (r0 : Nat) (rd : Nat → Nat) (i : Nat) (q0 : Nat) (f : Nat → Int32) (n : Nat) (b : Nat → Nat) (hb9 : RB f n b) (hi : i < 6) (k : Nat) (hk : k < 3) (hwu : wroB k n b = true ∨ untB k n b = true) (ou : Nat) (o : Nat → Int64) : MUN l yL_isWritten wsL_isWritten ({ frames := 80, cells := 5, slots := 1106, locals := 4000 } : Room) D T g [.ref lo, .int (nI i), .int (nI k), .ref ou] [(lo, .inr (2, [.ref ra, .ref d0, .ref b0, .ref t0, .ref r0])), (ra, .inl (T 2, 6, .inr (.inr (.inr (.inr (fun j => some (rd j))))))), (rd i, .inr (0, [.ref q0, .int (nI n)])), (q0, .inl (T 0, 440, .inl f)), (ou, .inl (T 3, 1, .inr (.inl o)))] sz (fun u : Unit => some (.int (nI 0))) (fun u : Unit => True) (fun u : Unit => [(lo, .inr (2, [.ref ra, .ref d0, .ref b0, .ref t0, .ref r0])), (ra, .inl (T 2, 6, .inr (.inr (.inr (.inr (fun j => some (rd j))))))), (rd i, .inr (0, [.ref q0, .int (nI n)])), (q0, .inl (T 0, 440, .inl f)), (ou, .inl (T 3, 1, .inr (.inl (vp_updL o 0 (lN 0)))))]) 5 1106 := by
  refine va_MetW (hh := [(0, 17, 20, 13), (0, 17, 24, 15)]) (cc := cL_isWritten) (maxL := 5) (ret := (some .int)) (by decide) rfl ?_
  intro p e s m args below meth c s₁ B hml hv
  obtain ⟨rfl, ⟨hsz, hP, hK, hD0, hG⟩, hN⟩ := hv
  have hx := B.exec
  have hb := B.bytes
  have hr := B.returns
  have hts := atoms_spec (ws := wsL_isWritten) B.pre
  have hown : s.vm.findClass RL = some m.cls := findClass_of_methodNamed B.named
  have hlocks := B.notSynchronized
  have htab : c.exceptionTable.toList = tableOf [(0, 17, 20, 13), (0, 17, 24, 15)] := vx_table (x := yL_add) B (hts _ (List.mem_of_getElem? (i := 0) rfl))
  subst hsz
  have hD := hD0.self (sz := s.heap.size)
  generalize hAe : va_A [(lo, .inr (2, [.ref ra, .ref d0, .ref b0, .ref t0, .ref r0])), (ra, .inl (T 2, 6, .inr (.inr (.inr (.inr (fun j => some (rd j))))))), (rd i, .inr (0, [.ref q0, .int (nI n)])), (q0, .inl (T 0, 440, .inl f)), (ou, .inl (T 3, 1, .inr (.inl o)))] s.heap.size = A at hD hG ⊢
  have hA : ∀ q : Nat, s.heap.size ≤ q → A q := fun q h => by rw [← hAe]; exact Or.inr h
  have hS : va_S A s.heap s.heap [] := va_S.rf
  have hP : va_P D cls [(lo, .inr (2, [.ref ra, .ref d0, .ref b0, .ref t0, .ref r0])), (ra, .inl (T 2, 6, .inr (.inr (.inr (.inr (fun j => some (rd j))))))), (rd i, .inr (0, [.ref q0, .int (nI n)])), (q0, .inl (T 0, 440, .inl f)), (ou, .inl (T 3, 1, .inr (.inl o)))] s.heap := hP
  have hl := lv_entry ([.ref lo, .int (nI i), .int (nI k), .ref ou]) (n := 5) (Nat.le_of_ble_eq_true rfl)
  rw [lg_entry_eq]
  generalize (lg_sl ([.ref lo, .int (nI i), .int (nI k), .ref ou]) ++ List.replicate (5 - (lg_sl ([.ref lo, .int (nI i), .int (nI k), .ref ou])).length) Slot.unset).toArray = ls at hl ⊢
  have hl : lv_has ls 5 [(0, .ref lo), (1, .int (nI i)), (2, .int (nI k)), (3, .ref ou)] := hl
  refine lv_aload_n hx hb dL_isWritten_0 rfl (lv_at hl 3 rfl) ?_
  refine lv_iconst (v := (nI 0)) hx hb dL_isWritten_1 (by decide +kernel) ?_
  refine lv_aload_n hx hb dL_isWritten_2 rfl (lv_at hl 0 rfl) ?_
  refine lv_iload_n hx hb dL_isWritten_3 rfl (lv_at hl 1 rfl) ?_
  refine lv_iload_n hx hb dL_isWritten_4 rfl (lv_at hl 2 rfl) ?_
  refine ro_V (As := [.int (nI i), .int (nI k)]) (rest := [.int (nI 0), .ref ou]) (wc := [(lo, .inr (2, [.ref ra, .ref d0, .ref b0, .ref t0, .ref r0])), (ra, .inl (T 2, 6, .inr (.inr (.inr (.inr (fun j => some (rd j))))))), (rd i, .inr (0, [.ref q0, .int (nI n)])), (q0, .inl (T 0, 440, .inl f))]) (r := .int (nI 0)) ⟨hx, hb, hml, hown, hts⟩ (c_isWritten_n l D T g lo ra d0 b0 t0 r0 rd i q0 f n b (hb9) (hi) k (hk) (hwu)) (cwV 2 hts gL_isWritten_X5_isWritten rfl rfl rfl (by decide +kernel) ⟨Nat.le_of_ble_eq_true rfl, Nat.le_of_ble_eq_true rfl⟩) (va_recv hK hP (ci := 2) (q0 := 0) rfl rfl) hP hK hG hS [0, 1, 2, 3] rfl ⟨Nat.zero_le _, Nat.zero_le _⟩ rfl hl.1 (Nat.le_of_ble_eq_true rfl) dL_isWritten_5 rfl ?_
  refine ln_if_eq_t (tgt := 15) hx hb (by omega) (by decide) dL_isWritten_8 (by decide) ?_
  refine lv_lconst (v := lN 0) hx hb dL_isWritten_15 (by decide +kernel) ?_
  refine va_last hx hb hK hP hD hS 4 3 rfl rfl (vp_in_nI (by omega) (by omega)) dL_isWritten_16 (fun H locs hP hD hS => ?_)
  rw [nI_clamp (by omega)] at hP hD
  have hP : va_P D cls [(lo, .inr (2, [.ref ra, .ref d0, .ref b0, .ref t0, .ref r0])), (ra, .inl (T 2, 6, .inr (.inr (.inr (.inr (fun j => some (rd j))))))), (rd i, .inr (0, [.ref q0, .int (nI n)])), (q0, .inl (T 0, 440, .inl f)), (ou, .inl (T 3, 1, .inr (.inl (vp_updL o 0 (lN 0)))))] H := hP
  have hD : va_D A [(lo, .inr (2, [.ref ra, .ref d0, .ref b0, .ref t0, .ref r0])), (ra, .inl (T 2, 6, .inr (.inr (.inr (.inr (fun j => some (rd j))))))), (rd i, .inr (0, [.ref q0, .int (nI n)])), (q0, .inl (T 0, 440, .inl f)), (ou, .inl (T 3, 1, .inr (.inl (vp_updL o 0 (lN 0)))))] := hD
  refine lv_goto (tgt := 28) hx hb dL_isWritten_17 (by decide) ?_
  refine lv_iconst (v := (nI 0)) hx hb dL_isWritten_28 (by decide +kernel) ?_
  have hP9 := hP.sub (ws' := [(lo, .inr (2, [.ref ra, .ref d0, .ref b0, .ref t0, .ref r0])), (ra, .inl (T 2, 6, .inr (.inr (.inr (.inr (fun j => some (rd j))))))), (rd i, .inr (0, [.ref q0, .int (nI n)])), (q0, .inl (T 0, 440, .inl f)), (ou, .inl (T 3, 1, .inr (.inl (vp_updL o 0 (lN 0)))))]) [0, 1, 2, 3, 4] rfl
  have hD9 := hD.sub (ws' := [(lo, .inr (2, [.ref ra, .ref d0, .ref b0, .ref t0, .ref r0])), (ra, .inl (T 2, 6, .inr (.inr (.inr (.inr (fun j => some (rd j))))))), (rd i, .inr (0, [.ref q0, .int (nI n)])), (q0, .inl (T 0, 440, .inl f)), (ou, .inl (T 3, 1, .inr (.inl (vp_updL o 0 (lN 0)))))]) [0, 1, 2, 3, 4] (by decide) rfl
  refine W.widen (k := 5) (n := 1106) (by omega) (by omega) ?_
  exact W.iret (v := (nI 0)) hx hb hr (fun t ht hW => ⟨⟨(), rfl, trivial, (by rw [ht]; exact hP9), va_K.moved hW.alike hK, hD9⟩, hS.F ht⟩) hS.2.2 dL_isWritten_29
set_option maxHeartbeats 4000000 in
set_option maxRecDepth 100000 in
theorem h_isWritten (l : Launch) (D : va_G) (T : Nat → ClassId) (g : Nat → Nat) (sz : Nat) (lo : Nat) (ra : Nat) (d0 : Nat) (b0 : Nat) (t0 : Nat) (r0 : Nat) (rd : Nat → Nat) (fr : Nat) (fq : Nat) (rf : Nat → Int32) (rn : Nat) (B0 : Int32) (hd0 : Int32) (dq : Nat) (df : Nat → Int32) (dn : Nat) (bq : Nat) (bf : Nat → Int32) (bn : Nat) (i : Nat) (q0 : Nat) (f : Nat → Int32) (n : Nat) (b : Nat → Nat) (hb9 : RB f n b) (hi : i < 6) (k : Nat) (hk : k < 3) (hw : wroB k n b = false) (hu : untB k n b = false) (L9 : Nat) (hL9 : L9 = lF k n b * 6 / 8) (hn3 : n ≤ 320) (ou : Nat) (o : Nat → Int64) : MUN l yL_isWritten wsL_isWritten ({ frames := 80, cells := 5, slots := 1106, locals := 4000 } : Room) D T g [.ref lo, .int (nI i), .int (nI k), .ref ou] [(lo, .inr (2, [.ref ra, .ref d0, .ref b0, .ref t0, .ref r0])), (ra, .inl (T 2, 6, .inr (.inr (.inr (.inr (fun j => some (rd j))))))), (r0, .inr (1, [.ref fr, .int B0, .int hd0])), (fr, .inr (0, [.ref fq, .int (nI rn)])), (fq, .inl (T 0, 440, .inl rf)), (rd i, .inr (0, [.ref q0, .int (nI n)])), (q0, .inl (T 0, 440, .inl f)), (d0, .inr (0, [.ref dq, .int (nI dn)])), (dq, .inl (T 0, 440, .inl df)), (b0, .inr (0, [.ref bq, .int (nI bn)])), (bq, .inl (T 0, 440, .inl bf)), (ou, .inl (T 3, 1, .inr (.inl o)))] sz (fun u : (Nat → Int32) × Int32 × Int32 × (Nat → Int32) × (Nat → Int32) => some (.int (nI 0))) (fun u : (Nat → Int32) × Int32 × Int32 × (Nat → Int32) × (Nat → Int32) => True) (fun u : (Nat → Int32) × Int32 × Int32 × (Nat → Int32) × (Nat → Int32) => [(lo, .inr (2, [.ref ra, .ref d0, .ref b0, .ref t0, .ref r0])), (ra, .inl (T 2, 6, .inr (.inr (.inr (.inr (fun j => some (rd j))))))), (r0, .inr (1, [.ref fr, .int u.2.1, .int u.2.2.1])), (fr, .inr (0, [.ref fq, .int (nI L9)])), (fq, .inl (T 0, 440, .inl u.1)), (rd i, .inr (0, [.ref q0, .int (nI n)])), (q0, .inl (T 0, 440, .inl f)), (d0, .inr (0, [.ref dq, .int (nI (lnN k L9 1))])), (dq, .inl (T 0, 440, .inl u.2.2.2.1)), (b0, .inr (0, [.ref bq, .int (nI (lnN k L9 0))])), (bq, .inl (T 0, 440, .inl u.2.2.2.2)), (ou, .inl (T 3, 1, .inr (.inl (vp_updL o 0 (bL (saB n b (lnN k L9 1) (wrA k L9 (outB (lwF k n b))) || saB n b (lnN k L9 0) (wrA k L9 (outB (lwF k n b)))))))))]) 5 1106 := by
  refine va_MetW (hh := [(0, 17, 20, 13), (0, 17, 24, 15)]) (cc := cL_isWritten) (maxL := 5) (ret := (some .int)) (by decide) rfl ?_
  intro p e s m args below meth c s₁ B hml hv
  obtain ⟨rfl, ⟨hsz, hP, hK, hD0, hG⟩, hN⟩ := hv
  have hx := B.exec
  have hb := B.bytes
  have hr := B.returns
  have hts := atoms_spec (ws := wsL_isWritten) B.pre
  have hown : s.vm.findClass RL = some m.cls := findClass_of_methodNamed B.named
  have hlocks := B.notSynchronized
  have htab : c.exceptionTable.toList = tableOf [(0, 17, 20, 13), (0, 17, 24, 15)] := vx_table (x := yL_add) B (hts _ (List.mem_of_getElem? (i := 0) rfl))
  subst hsz
  have hD := hD0.self (sz := s.heap.size)
  generalize hAe : va_A [(lo, .inr (2, [.ref ra, .ref d0, .ref b0, .ref t0, .ref r0])), (ra, .inl (T 2, 6, .inr (.inr (.inr (.inr (fun j => some (rd j))))))), (r0, .inr (1, [.ref fr, .int B0, .int hd0])), (fr, .inr (0, [.ref fq, .int (nI rn)])), (fq, .inl (T 0, 440, .inl rf)), (rd i, .inr (0, [.ref q0, .int (nI n)])), (q0, .inl (T 0, 440, .inl f)), (d0, .inr (0, [.ref dq, .int (nI dn)])), (dq, .inl (T 0, 440, .inl df)), (b0, .inr (0, [.ref bq, .int (nI bn)])), (bq, .inl (T 0, 440, .inl bf)), (ou, .inl (T 3, 1, .inr (.inl o)))] s.heap.size = A at hD hG ⊢
  have hA : ∀ q : Nat, s.heap.size ≤ q → A q := fun q h => by rw [← hAe]; exact Or.inr h
  have hS : va_S A s.heap s.heap [] := va_S.rf
  have hP : va_P D cls [(lo, .inr (2, [.ref ra, .ref d0, .ref b0, .ref t0, .ref r0])), (ra, .inl (T 2, 6, .inr (.inr (.inr (.inr (fun j => some (rd j))))))), (r0, .inr (1, [.ref fr, .int B0, .int hd0])), (fr, .inr (0, [.ref fq, .int (nI rn)])), (fq, .inl (T 0, 440, .inl rf)), (rd i, .inr (0, [.ref q0, .int (nI n)])), (q0, .inl (T 0, 440, .inl f)), (d0, .inr (0, [.ref dq, .int (nI dn)])), (dq, .inl (T 0, 440, .inl df)), (b0, .inr (0, [.ref bq, .int (nI bn)])), (bq, .inl (T 0, 440, .inl bf)), (ou, .inl (T 3, 1, .inr (.inl o)))] s.heap := hP
  have hl := lv_entry ([.ref lo, .int (nI i), .int (nI k), .ref ou]) (n := 5) (Nat.le_of_ble_eq_true rfl)
  rw [lg_entry_eq]
  generalize (lg_sl ([.ref lo, .int (nI i), .int (nI k), .ref ou]) ++ List.replicate (5 - (lg_sl ([.ref lo, .int (nI i), .int (nI k), .ref ou])).length) Slot.unset).toArray = ls at hl ⊢
  have hl : lv_has ls 5 [(0, .ref lo), (1, .int (nI i)), (2, .int (nI k)), (3, .ref ou)] := hl
  refine lv_aload_n hx hb dL_isWritten_0 rfl (lv_at hl 3 rfl) ?_
  refine lv_iconst (v := (nI 0)) hx hb dL_isWritten_1 (by decide +kernel) ?_
  refine lv_aload_n hx hb dL_isWritten_2 rfl (lv_at hl 0 rfl) ?_
  refine lv_iload_n hx hb dL_isWritten_3 rfl (lv_at hl 1 rfl) ?_
  refine lv_iload_n hx hb dL_isWritten_4 rfl (lv_at hl 2 rfl) ?_
  refine mu_V (As := [.int (nI i), .int (nI k)]) (rest := [.int (nI 0), .ref ou]) (wc := [(lo, .inr (2, [.ref ra, .ref d0, .ref b0, .ref t0, .ref r0])), (ra, .inl (T 2, 6, .inr (.inr (.inr (.inr (fun j => some (rd j))))))), (r0, .inr (1, [.ref fr, .int B0, .int hd0])), (fr, .inr (0, [.ref fq, .int (nI rn)])), (fq, .inl (T 0, 440, .inl rf)), (rd i, .inr (0, [.ref q0, .int (nI n)])), (q0, .inl (T 0, 440, .inl f)), (d0, .inr (0, [.ref dq, .int (nI dn)])), (dq, .inl (T 0, 440, .inl df)), (b0, .inr (0, [.ref bq, .int (nI bn)])), (bq, .inl (T 0, 440, .inl bf))]) (wr := [(ou, .inl (T 3, 1, .inr (.inl o)))]) ⟨hx, hb, hml, hown, hts⟩ (c_isWritten l D T g s.heap.size lo ra d0 b0 t0 r0 rd fr fq rf rn B0 hd0 dq df dn bq bf bn i q0 f n b (hb9) (hi) k (hk) (hw) (hu) L9 (hL9) (hn3)) (cwV 2 hts gL_isWritten_X5_isWritten rfl rfl rfl (by decide +kernel) ⟨Nat.le_of_ble_eq_true rfl, Nat.le_of_ble_eq_true rfl⟩) (va_recv hK hP (ci := 2) (q0 := 0) rfl rfl) hP hD hK hG hS hA [0, 1, 2, 3, 4, 5, 6, 7, 8, 9, 10] [11] rfl (by decide) rfl (by decide) (by decide) ⟨Nat.le_of_ble_eq_true rfl, Nat.le_of_ble_eq_true rfl⟩ rfl hl.1 (Nat.le_of_ble_eq_true rfl) dL_isWritten_5 rfl (fun u H locs hq6 hP hD hS => ?_)
  obtain ⟨F2_1, B2_2, hd2_3, DF_4, BF_5⟩ := u
  have hP : va_P D cls [(ou, .inl (T 3, 1, .inr (.inl o))), (lo, .inr (2, [.ref ra, .ref d0, .ref b0, .ref t0, .ref r0])), (ra, .inl (T 2, 6, .inr (.inr (.inr (.inr (fun j => some (rd j))))))), (r0, .inr (1, [.ref fr, .int B2_2, .int hd2_3])), (fr, .inr (0, [.ref fq, .int (nI L9)])), (fq, .inl (T 0, 440, .inl F2_1)), (rd i, .inr (0, [.ref q0, .int (nI n)])), (q0, .inl (T 0, 440, .inl f)), (d0, .inr (0, [.ref dq, .int (nI (lnN k L9 1))])), (dq, .inl (T 0, 440, .inl DF_4)), (b0, .inr (0, [.ref bq, .int (nI (lnN k L9 0))])), (bq, .inl (T 0, 440, .inl BF_5))] H := hP
  have hD : va_D A [(ou, .inl (T 3, 1, .inr (.inl o))), (lo, .inr (2, [.ref ra, .ref d0, .ref b0, .ref t0, .ref r0])), (ra, .inl (T 2, 6, .inr (.inr (.inr (.inr (fun j => some (rd j))))))), (r0, .inr (1, [.ref fr, .int B2_2, .int hd2_3])), (fr, .inr (0, [.ref fq, .int (nI L9)])), (fq, .inl (T 0, 440, .inl F2_1)), (rd i, .inr (0, [.ref q0, .int (nI n)])), (q0, .inl (T 0, 440, .inl f)), (d0, .inr (0, [.ref dq, .int (nI (lnN k L9 1))])), (dq, .inl (T 0, 440, .inl DF_4)), (b0, .inr (0, [.ref bq, .int (nI (lnN k L9 0))])), (bq, .inl (T 0, 440, .inl BF_5))] := hD
  refine W.eq (g2 := F0 m 8 ls [.int (bI (saB n b (lnN k L9 1) (wrA k L9 (outB (lwF k n b))) || saB n b (lnN k L9 0) (wrA k L9 (outB (lwF k n b))))), .int (nI 0), .ref ou]) rfl ?_
  refine lv_if_eq (tgt := 15) hx hb dL_isWritten_8 (by decide) (fun c_8 => ?_) (fun c_8 => ?_)
  · refine lv_lconst (v := lN 0) hx hb dL_isWritten_15 (by decide +kernel) ?_
    rw [show lN 0 = bL (saB n b (lnN k L9 1) (wrA k L9 (outB (lwF k n b))) || saB n b (lnN k L9 0) (wrA k L9 (outB (lwF k n b)))) from by rw [bI_z.mp c_8]; rfl]
    refine va_last hx hb hK hP hD hS 0 3 rfl rfl (vp_in_nI (by omega) (by omega)) dL_isWritten_16 (fun H locs hP hD hS => ?_)
    rw [nI_clamp (by omega)] at hP hD
    have hP : va_P D cls [(ou, .inl (T 3, 1, .inr (.inl (vp_updL o 0 (bL (saB n b (lnN k L9 1) (wrA k L9 (outB (lwF k n b))) || saB n b (lnN k L9 0) (wrA k L9 (outB (lwF k n b))))))))), (lo, .inr (2, [.ref ra, .ref d0, .ref b0, .ref t0, .ref r0])), (ra, .inl (T 2, 6, .inr (.inr (.inr (.inr (fun j => some (rd j))))))), (r0, .inr (1, [.ref fr, .int B2_2, .int hd2_3])), (fr, .inr (0, [.ref fq, .int (nI L9)])), (fq, .inl (T 0, 440, .inl F2_1)), (rd i, .inr (0, [.ref q0, .int (nI n)])), (q0, .inl (T 0, 440, .inl f)), (d0, .inr (0, [.ref dq, .int (nI (lnN k L9 1))])), (dq, .inl (T 0, 440, .inl DF_4)), (b0, .inr (0, [.ref bq, .int (nI (lnN k L9 0))])), (bq, .inl (T 0, 440, .inl BF_5))] H := hP
    have hD : va_D A [(ou, .inl (T 3, 1, .inr (.inl (vp_updL o 0 (bL (saB n b (lnN k L9 1) (wrA k L9 (outB (lwF k n b))) || saB n b (lnN k L9 0) (wrA k L9 (outB (lwF k n b))))))))), (lo, .inr (2, [.ref ra, .ref d0, .ref b0, .ref t0, .ref r0])), (ra, .inl (T 2, 6, .inr (.inr (.inr (.inr (fun j => some (rd j))))))), (r0, .inr (1, [.ref fr, .int B2_2, .int hd2_3])), (fr, .inr (0, [.ref fq, .int (nI L9)])), (fq, .inl (T 0, 440, .inl F2_1)), (rd i, .inr (0, [.ref q0, .int (nI n)])), (q0, .inl (T 0, 440, .inl f)), (d0, .inr (0, [.ref dq, .int (nI (lnN k L9 1))])), (dq, .inl (T 0, 440, .inl DF_4)), (b0, .inr (0, [.ref bq, .int (nI (lnN k L9 0))])), (bq, .inl (T 0, 440, .inl BF_5))] := hD
    refine lv_goto (tgt := 28) hx hb dL_isWritten_17 (by decide) ?_
    refine lv_iconst (v := (nI 0)) hx hb dL_isWritten_28 (by decide +kernel) ?_
    have hP9 := hP.sub (ws' := [(lo, .inr (2, [.ref ra, .ref d0, .ref b0, .ref t0, .ref r0])), (ra, .inl (T 2, 6, .inr (.inr (.inr (.inr (fun j => some (rd j))))))), (r0, .inr (1, [.ref fr, .int B2_2, .int hd2_3])), (fr, .inr (0, [.ref fq, .int (nI L9)])), (fq, .inl (T 0, 440, .inl F2_1)), (rd i, .inr (0, [.ref q0, .int (nI n)])), (q0, .inl (T 0, 440, .inl f)), (d0, .inr (0, [.ref dq, .int (nI (lnN k L9 1))])), (dq, .inl (T 0, 440, .inl DF_4)), (b0, .inr (0, [.ref bq, .int (nI (lnN k L9 0))])), (bq, .inl (T 0, 440, .inl BF_5)), (ou, .inl (T 3, 1, .inr (.inl (vp_updL o 0 (bL (saB n b (lnN k L9 1) (wrA k L9 (outB (lwF k n b))) || saB n b (lnN k L9 0) (wrA k L9 (outB (lwF k n b)))))))))]) [1, 2, 3, 4, 5, 6, 7, 8, 9, 10, 11, 0] rfl
    have hD9 := hD.sub (ws' := [(lo, .inr (2, [.ref ra, .ref d0, .ref b0, .ref t0, .ref r0])), (ra, .inl (T 2, 6, .inr (.inr (.inr (.inr (fun j => some (rd j))))))), (r0, .inr (1, [.ref fr, .int B2_2, .int hd2_3])), (fr, .inr (0, [.ref fq, .int (nI L9)])), (fq, .inl (T 0, 440, .inl F2_1)), (rd i, .inr (0, [.ref q0, .int (nI n)])), (q0, .inl (T 0, 440, .inl f)), (d0, .inr (0, [.ref dq, .int (nI (lnN k L9 1))])), (dq, .inl (T 0, 440, .inl DF_4)), (b0, .inr (0, [.ref bq, .int (nI (lnN k L9 0))])), (bq, .inl (T 0, 440, .inl BF_5)), (ou, .inl (T 3, 1, .inr (.inl (vp_updL o 0 (bL (saB n b (lnN k L9 1) (wrA k L9 (outB (lwF k n b))) || saB n b (lnN k L9 0) (wrA k L9 (outB (lwF k n b)))))))))]) [1, 2, 3, 4, 5, 6, 7, 8, 9, 10, 11, 0] (by decide) rfl
    refine W.widen (k := 5) (n := 1106) (by omega) (by omega) ?_
    exact W.iret (v := (nI 0)) hx hb hr (fun t ht hW => ⟨⟨(F2_1, B2_2, hd2_3, DF_4, BF_5), rfl, trivial, (by rw [ht]; exact hP9), va_K.moved hW.alike hK, hD9⟩, hS.F ht⟩) hS.2.2 dL_isWritten_29
  · refine lv_lconst (v := lN 1) hx hb dL_isWritten_11 (by decide +kernel) ?_
    refine lv_goto (tgt := 16) hx hb dL_isWritten_12 (by decide) ?_
    rw [show lN 1 = bL (saB n b (lnN k L9 1) (wrA k L9 (outB (lwF k n b))) || saB n b (lnN k L9 0) (wrA k L9 (outB (lwF k n b)))) from by rw [bI_nz.mp c_8]; rfl]
    refine va_last hx hb hK hP hD hS 0 3 rfl rfl (vp_in_nI (by omega) (by omega)) dL_isWritten_16 (fun H locs hP hD hS => ?_)
    rw [nI_clamp (by omega)] at hP hD
    have hP : va_P D cls [(ou, .inl (T 3, 1, .inr (.inl (vp_updL o 0 (bL (saB n b (lnN k L9 1) (wrA k L9 (outB (lwF k n b))) || saB n b (lnN k L9 0) (wrA k L9 (outB (lwF k n b))))))))), (lo, .inr (2, [.ref ra, .ref d0, .ref b0, .ref t0, .ref r0])), (ra, .inl (T 2, 6, .inr (.inr (.inr (.inr (fun j => some (rd j))))))), (r0, .inr (1, [.ref fr, .int B2_2, .int hd2_3])), (fr, .inr (0, [.ref fq, .int (nI L9)])), (fq, .inl (T 0, 440, .inl F2_1)), (rd i, .inr (0, [.ref q0, .int (nI n)])), (q0, .inl (T 0, 440, .inl f)), (d0, .inr (0, [.ref dq, .int (nI (lnN k L9 1))])), (dq, .inl (T 0, 440, .inl DF_4)), (b0, .inr (0, [.ref bq, .int (nI (lnN k L9 0))])), (bq, .inl (T 0, 440, .inl BF_5))] H := hP
    have hD : va_D A [(ou, .inl (T 3, 1, .inr (.inl (vp_updL o 0 (bL (saB n b (lnN k L9 1) (wrA k L9 (outB (lwF k n b))) || saB n b (lnN k L9 0) (wrA k L9 (outB (lwF k n b))))))))), (lo, .inr (2, [.ref ra, .ref d0, .ref b0, .ref t0, .ref r0])), (ra, .inl (T 2, 6, .inr (.inr (.inr (.inr (fun j => some (rd j))))))), (r0, .inr (1, [.ref fr, .int B2_2, .int hd2_3])), (fr, .inr (0, [.ref fq, .int (nI L9)])), (fq, .inl (T 0, 440, .inl F2_1)), (rd i, .inr (0, [.ref q0, .int (nI n)])), (q0, .inl (T 0, 440, .inl f)), (d0, .inr (0, [.ref dq, .int (nI (lnN k L9 1))])), (dq, .inl (T 0, 440, .inl DF_4)), (b0, .inr (0, [.ref bq, .int (nI (lnN k L9 0))])), (bq, .inl (T 0, 440, .inl BF_5))] := hD
    refine lv_goto (tgt := 28) hx hb dL_isWritten_17 (by decide) ?_
    refine lv_iconst (v := (nI 0)) hx hb dL_isWritten_28 (by decide +kernel) ?_
    have hP9 := hP.sub (ws' := [(lo, .inr (2, [.ref ra, .ref d0, .ref b0, .ref t0, .ref r0])), (ra, .inl (T 2, 6, .inr (.inr (.inr (.inr (fun j => some (rd j))))))), (r0, .inr (1, [.ref fr, .int B2_2, .int hd2_3])), (fr, .inr (0, [.ref fq, .int (nI L9)])), (fq, .inl (T 0, 440, .inl F2_1)), (rd i, .inr (0, [.ref q0, .int (nI n)])), (q0, .inl (T 0, 440, .inl f)), (d0, .inr (0, [.ref dq, .int (nI (lnN k L9 1))])), (dq, .inl (T 0, 440, .inl DF_4)), (b0, .inr (0, [.ref bq, .int (nI (lnN k L9 0))])), (bq, .inl (T 0, 440, .inl BF_5)), (ou, .inl (T 3, 1, .inr (.inl (vp_updL o 0 (bL (saB n b (lnN k L9 1) (wrA k L9 (outB (lwF k n b))) || saB n b (lnN k L9 0) (wrA k L9 (outB (lwF k n b)))))))))]) [1, 2, 3, 4, 5, 6, 7, 8, 9, 10, 11, 0] rfl
    have hD9 := hD.sub (ws' := [(lo, .inr (2, [.ref ra, .ref d0, .ref b0, .ref t0, .ref r0])), (ra, .inl (T 2, 6, .inr (.inr (.inr (.inr (fun j => some (rd j))))))), (r0, .inr (1, [.ref fr, .int B2_2, .int hd2_3])), (fr, .inr (0, [.ref fq, .int (nI L9)])), (fq, .inl (T 0, 440, .inl F2_1)), (rd i, .inr (0, [.ref q0, .int (nI n)])), (q0, .inl (T 0, 440, .inl f)), (d0, .inr (0, [.ref dq, .int (nI (lnN k L9 1))])), (dq, .inl (T 0, 440, .inl DF_4)), (b0, .inr (0, [.ref bq, .int (nI (lnN k L9 0))])), (bq, .inl (T 0, 440, .inl BF_5)), (ou, .inl (T 3, 1, .inr (.inl (vp_updL o 0 (bL (saB n b (lnN k L9 1) (wrA k L9 (outB (lwF k n b))) || saB n b (lnN k L9 0) (wrA k L9 (outB (lwF k n b)))))))))]) [1, 2, 3, 4, 5, 6, 7, 8, 9, 10, 11, 0] (by decide) rfl
    refine W.widen (k := 5) (n := 1106) (by omega) (by omega) ?_
    exact W.iret (v := (nI 0)) hx hb hr (fun t ht hW => ⟨⟨(F2_1, B2_2, hd2_3, DF_4, BF_5), rfl, trivial, (by rw [ht]; exact hP9), va_K.moved hW.alike hK, hD9⟩, hS.F ht⟩) hS.2.2 dL_isWritten_29
set_option maxHeartbeats 4000000 in
set_option maxRecDepth 100000 in
theorem h_plain_x1 (l : Launch) (D : va_G) (T : Nat → ClassId) (g : Nat → Nat) (sz : Nat) (hl9 : l.stackTraces = false) (lo : Nat) (ra : Nat) (d0 : Nat) (b0 : Nat) (t0 : Nat) (r0 : Nat) (rd : Nat → Nat) (i : Int32) (hi : i < 0 ∨ ¬ i < nI 6) (x0 : Int32) (ou : Nat) (o : Nat → Int64) : MUN l yL_plain wsL_plain ({ frames := 80, cells := 5, slots := 1106, locals := 4000 } : Room) D T g [.ref lo, .int i, .int x0, .ref ou] [(lo, .inr (2, [.ref ra, .ref d0, .ref b0, .ref t0, .ref r0])), (ra, .inl (T 2, 6, .inr (.inr (.inr (.inr (fun j => some (rd j))))))), (ou, .inl (T 3, 1, .inr (.inl o)))] sz (fun u : Unit => some (.int (nI 1))) (fun u : Unit => True) (fun u : Unit => [(lo, .inr (2, [.ref ra, .ref d0, .ref b0, .ref t0, .ref r0])), (ra, .inl (T 2, 6, .inr (.inr (.inr (.inr (fun j => some (rd j))))))), (ou, .inl (T 3, 1, .inr (.inl o)))]) 5 1106 := by
  refine va_MetW (hh := [(0, 10, 13, 13), (0, 10, 17, 15), (0, 10, 21, 57), (0, 10, 25, 17)]) (cc := cL_plain) (maxL := 5) (ret := (some .int)) (by decide) rfl ?_
  intro p e s m args below meth c s₁ B hml hv
  obtain ⟨rfl, ⟨hsz, hP, hK, hD0, hG⟩, hN⟩ := hv
  have hx := B.exec
  have hb := B.bytes
  have hr := B.returns
  have hts := atoms_spec (ws := wsL_plain) B.pre
  have hown : s.vm.findClass RL = some m.cls := findClass_of_methodNamed B.named
  have hlocks := B.notSynchronized
  have htab : c.exceptionTable.toList = tableOf [(0, 10, 13, 13), (0, 10, 17, 15), (0, 10, 21, 57), (0, 10, 25, 17)] := vx_table (x := yL_add) B (hts _ (List.mem_of_getElem? (i := 0) rfl))
  subst hsz
  have hD := hD0.self (sz := s.heap.size)
  generalize hAe : va_A [(lo, .inr (2, [.ref ra, .ref d0, .ref b0, .ref t0, .ref r0])), (ra, .inl (T 2, 6, .inr (.inr (.inr (.inr (fun j => some (rd j))))))), (ou, .inl (T 3, 1, .inr (.inl o)))] s.heap.size = A at hD hG ⊢
  have hA : ∀ q : Nat, s.heap.size ≤ q → A q := fun q h => by rw [← hAe]; exact Or.inr h
  have hS : va_S A s.heap s.heap [] := va_S.rf
  have hP : va_P D cls [(lo, .inr (2, [.ref ra, .ref d0, .ref b0, .ref t0, .ref r0])), (ra, .inl (T 2, 6, .inr (.inr (.inr (.inr (fun j => some (rd j))))))), (ou, .inl (T 3, 1, .inr (.inl o)))] s.heap := hP
  have hl := lv_entry ([.ref lo, .int i, .int x0, .ref ou]) (n := 5) (Nat.le_of_ble_eq_true rfl)
  rw [lg_entry_eq]
  generalize (lg_sl ([.ref lo, .int i, .int x0, .ref ou]) ++ List.replicate (5 - (lg_sl ([.ref lo, .int i, .int x0, .ref ou])).length) Slot.unset).toArray = ls at hl ⊢
  have hl : lv_has ls 5 [(0, .ref lo), (1, .int i), (2, .int x0), (3, .ref ou)] := hl
  refine lv_aload_n hx hb dL_plain_0 rfl (lv_at hl 3 rfl) ?_
  refine lv_iconst (v := (nI 0)) hx hb dL_plain_1 (by decide +kernel) ?_
  refine lv_aload_n hx hb dL_plain_2 rfl (lv_at hl 0 rfl) ?_
  refine lv_iload_n hx hb dL_plain_3 rfl (lv_at hl 1 rfl) ?_
  refine lv_iload_n hx hb dL_plain_4 rfl (lv_at hl 2 rfl) ?_
  refine tc_V (hpc := 13) (As := [.int i, .int x0]) (rest := [.int (nI 0), .ref ou]) (wc := [(lo, .inr (2, [.ref ra, .ref d0, .ref b0, .ref t0, .ref r0])), (ra, .inl (T 2, 6, .inr (.inr (.inr (.inr (fun j => some (rd j)))))))]) (wr := [(ou, .inl (T 3, 1, .inr (.inl o)))]) ⟨hx, hb, hml, hown, hts⟩ (c_plain_x1 l D T g s.heap.size (hl9) lo ra d0 b0 t0 r0 rd i (hi) x0) (cwV 2 hts gL_plain_X5_plain rfl rfl rfl (by decide +kernel) ⟨Nat.le_of_ble_eq_true rfl, Nat.le_of_ble_eq_true rfl⟩) (va_recv hK hP (ci := 2) (q0 := 0) rfl rfl) hP hD hK hG hS hA [0, 1] [2] rfl (by decide) rfl (by decide) (by decide) ⟨Nat.le_of_ble_eq_true rfl, Nat.le_of_ble_eq_true rfl⟩ rfl hl.1 (Nat.le_of_ble_eq_true rfl) dL_plain_5 rfl (fun H1 locs1 q9 ce h1 h2 h3 k9 => vx_catch (name := "java/lang/IndexOutOfBoundsException") hown [] ⟨0, 10, 13, 13⟩ [⟨0, 10, 17, 15⟩, ⟨0, 10, 21, 57⟩, ⟨0, 10, 25, 17⟩] (htab.trans rfl) (fun _ h => absurd h List.not_mem_nil) (by decide) (by decide) (hts _ (List.mem_of_getElem? (i := 1) rfl)) (va_Yc.word (hN.2 _ (List.mem_of_getElem? (i := 0) rfl))) h1 h2 h3 k9) (fun u q9 H locs hq1 hP hD hS => ?_)
  refine W.widen (k := 1) (n := 6) (Nat.le_of_ble_eq_true rfl) (Nat.le_of_ble_eq_true rfl) ?_
  have hP : va_P D cls [(ou, .inl (T 3, 1, .inr (.inl o))), (lo, .inr (2, [.ref ra, .ref d0, .ref b0, .ref t0, .ref r0])), (ra, .inl (T 2, 6, .inr (.inr (.inr (.inr (fun j => some (rd j)))))))] H := hP
  have hD : va_D A [(ou, .inl (T 3, 1, .inr (.inl o))), (lo, .inr (2, [.ref ra, .ref d0, .ref b0, .ref t0, .ref r0])), (ra, .inl (T 2, 6, .inr (.inr (.inr (.inr (fun j => some (rd j)))))))] := hD
  refine lv_astore (lv' := [(4, .ref q9), (0, .ref lo), (1, .int i), (2, .int x0), (3, .ref ou)]) hx hb dL_plain_13 hl (by decide) rfl (fun ls hl => ?_)
  refine lv_iconst (v := (nI 1)) hx hb dL_plain_15 (by decide +kernel) ?_
  have hP9 := hP.sub (ws' := [(lo, .inr (2, [.ref ra, .ref d0, .ref b0, .ref t0, .ref r0])), (ra, .inl (T 2, 6, .inr (.inr (.inr (.inr (fun j => some (rd j))))))), (ou, .inl (T 3, 1, .inr (.inl o)))]) [1, 2, 0] rfl
  have hD9 := hD.sub (ws' := [(lo, .inr (2, [.ref ra, .ref d0, .ref b0, .ref t0, .ref r0])), (ra, .inl (T 2, 6, .inr (.inr (.inr (.inr (fun j => some (rd j))))))), (ou, .inl (T 3, 1, .inr (.inl o)))]) [1, 2, 0] (by decide) rfl
  refine W.widen (k := 5) (n := 1106) (by omega) (by omega) ?_
  exact W.iret (v := (nI 1)) hx hb hr (fun t ht hW => ⟨⟨(), rfl, trivial, (by rw [ht]; exact hP9), va_K.moved hW.alike hK, hD9⟩, hS.F ht⟩) hS.2.2 dL_plain_16
set_option maxHeartbeats 4000000 in
set_option maxRecDepth 100000 in
theorem h_plain_x2 (l : Launch) (D : va_G) (T : Nat → ClassId) (g : Nat → Nat) (sz : Nat) (hl9 : l.stackTraces = false) (lo : Nat) (ra : Nat) (d0 : Nat) (b0 : Nat) (t0 : Nat) (r0 : Nat) (rd : Nat → Nat) (i : Nat) (q0 : Nat) (f : Nat → Int32) (n : Nat) (hi : i < 6) (k : Int32) (hk : k < 0 ∨ ¬ k < nI 3) (ou : Nat) (o : Nat → Int64) : MUN l yL_plain wsL_plain ({ frames := 80, cells := 5, slots := 1106, locals := 4000 } : Room) D T g [.ref lo, .int (nI i), .int k, .ref ou] [(lo, .inr (2, [.ref ra, .ref d0, .ref b0, .ref t0, .ref r0])), (ra, .inl (T 2, 6, .inr (.inr (.inr (.inr (fun j => some (rd j))))))), (rd i, .inr (0, [.ref q0, .int (nI n)])), (q0, .inl (T 0, 440, .inl f)), (ou, .inl (T 3, 1, .inr (.inl o)))] sz (fun u : Unit => some (.int (nI 2))) (fun u : Unit => True) (fun u : Unit => [(lo, .inr (2, [.ref ra, .ref d0, .ref b0, .ref t0, .ref r0])), (ra, .inl (T 2, 6, .inr (.inr (.inr (.inr (fun j => some (rd j))))))), (rd i, .inr (0, [.ref q0, .int (nI n)])), (q0, .inl (T 0, 440, .inl f)), (ou, .inl (T 3, 1, .inr (.inl o)))]) 5 1106 := by
  refine va_MetW (hh := [(0, 10, 13, 13), (0, 10, 17, 15), (0, 10, 21, 57), (0, 10, 25, 17)]) (cc := cL_plain) (maxL := 5) (ret := (some .int)) (by decide) rfl ?_
  intro p e s m args below meth c s₁ B hml hv
  obtain ⟨rfl, ⟨hsz, hP, hK, hD0, hG⟩, hN⟩ := hv
  have hx := B.exec
  have hb := B.bytes
  have hr := B.returns
  have hts := atoms_spec (ws := wsL_plain) B.pre
  have hown : s.vm.findClass RL = some m.cls := findClass_of_methodNamed B.named
  have hlocks := B.notSynchronized
  have htab : c.exceptionTable.toList = tableOf [(0, 10, 13, 13), (0, 10, 17, 15), (0, 10, 21, 57), (0, 10, 25, 17)] := vx_table (x := yL_add) B (hts _ (List.mem_of_getElem? (i := 0) rfl))
  subst hsz
  have hD := hD0.self (sz := s.heap.size)
  generalize hAe : va_A [(lo, .inr (2, [.ref ra, .ref d0, .ref b0, .ref t0, .ref r0])), (ra, .inl (T 2, 6, .inr (.inr (.inr (.inr (fun j => some (rd j))))))), (rd i, .inr (0, [.ref q0, .int (nI n)])), (q0, .inl (T 0, 440, .inl f)), (ou, .inl (T 3, 1, .inr (.inl o)))] s.heap.size = A at hD hG ⊢
  have hA : ∀ q : Nat, s.heap.size ≤ q → A q := fun q h => by rw [← hAe]; exact Or.inr h
  have hS : va_S A s.heap s.heap [] := va_S.rf
  have hP : va_P D cls [(lo, .inr (2, [.ref ra, .ref d0, .ref b0, .ref t0, .ref r0])), (ra, .inl (T 2, 6, .inr (.inr (.inr (.inr (fun j => some (rd j))))))), (rd i, .inr (0, [.ref q0, .int (nI n)])), (q0, .inl (T 0, 440, .inl f)), (ou, .inl (T 3, 1, .inr (.inl o)))] s.heap := hP
  have hl := lv_entry ([.ref lo, .int (nI i), .int k, .ref ou]) (n := 5) (Nat.le_of_ble_eq_true rfl)
  rw [lg_entry_eq]
  generalize (lg_sl ([.ref lo, .int (nI i), .int k, .ref ou]) ++ List.replicate (5 - (lg_sl ([.ref lo, .int (nI i), .int k, .ref ou])).length) Slot.unset).toArray = ls at hl ⊢
  have hl : lv_has ls 5 [(0, .ref lo), (1, .int (nI i)), (2, .int k), (3, .ref ou)] := hl
  refine lv_aload_n hx hb dL_plain_0 rfl (lv_at hl 3 rfl) ?_
  refine lv_iconst (v := (nI 0)) hx hb dL_plain_1 (by decide +kernel) ?_
  refine lv_aload_n hx hb dL_plain_2 rfl (lv_at hl 0 rfl) ?_
  refine lv_iload_n hx hb dL_plain_3 rfl (lv_at hl 1 rfl) ?_
  refine lv_iload_n hx hb dL_plain_4 rfl (lv_at hl 2 rfl) ?_
  refine tc_V (hpc := 17) (As := [.int (nI i), .int k]) (rest := [.int (nI 0), .ref ou]) (wc := [(lo, .inr (2, [.ref ra, .ref d0, .ref b0, .ref t0, .ref r0])), (ra, .inl (T 2, 6, .inr (.inr (.inr (.inr (fun j => some (rd j))))))), (rd i, .inr (0, [.ref q0, .int (nI n)])), (q0, .inl (T 0, 440, .inl f))]) (wr := [(ou, .inl (T 3, 1, .inr (.inl o)))]) ⟨hx, hb, hml, hown, hts⟩ (c_plain_x2 l D T g s.heap.size (hl9) lo ra d0 b0 t0 r0 rd i q0 f n (hi) k (hk)) (cwV 2 hts gL_plain_X5_plain rfl rfl rfl (by decide +kernel) ⟨Nat.le_of_ble_eq_true rfl, Nat.le_of_ble_eq_true rfl⟩) (va_recv hK hP (ci := 2) (q0 := 0) rfl rfl) hP hD hK hG hS hA [0, 1, 2, 3] [4] rfl (by decide) rfl (by decide) (by decide) ⟨Nat.le_of_ble_eq_true rfl, Nat.le_of_ble_eq_true rfl⟩ rfl hl.1 (Nat.le_of_ble_eq_true rfl) dL_plain_5 rfl (fun H1 locs1 q9 ce h1 h2 h3 k9 => vx_catch (name := "java/lang/IllegalArgumentException") hown [⟨0, 10, 13, 13⟩] ⟨0, 10, 17, 15⟩ [⟨0, 10, 21, 57⟩, ⟨0, 10, 25, 17⟩] (htab.trans rfl) (List.forall_mem_cons.mpr ⟨Or.inr ⟨by decide, "java/lang/IndexOutOfBoundsException", (hts _ (List.mem_of_getElem? (i := 1) rfl)), hN.1 _ (List.mem_of_getElem? (i := 0) rfl)⟩, (fun _ h => absurd h List.not_mem_nil)⟩) (by decide) (by decide) (hts _ (List.mem_of_getElem? (i := 2) rfl)) (va_Yc.word (hN.2 _ (List.mem_of_getElem? (i := 1) rfl))) h1 h2 h3 k9) (fun u q9 H locs hq1 hP hD hS => ?_)
  refine W.widen (k := 1) (n := 6) (Nat.le_of_ble_eq_true rfl) (Nat.le_of_ble_eq_true rfl) ?_
  have hP : va_P D cls [(ou, .inl (T 3, 1, .inr (.inl o))), (lo, .inr (2, [.ref ra, .ref d0, .ref b0, .ref t0, .ref r0])), (ra, .inl (T 2, 6, .inr (.inr (.inr (.inr (fun j => some (rd j))))))), (rd i, .inr (0, [.ref q0, .int (nI n)])), (q0, .inl (T 0, 440, .inl f))] H := hP
  have hD : va_D A [(ou, .inl (T 3, 1, .inr (.inl o))), (lo, .inr (2, [.ref ra, .ref d0, .ref b0, .ref t0, .ref r0])), (ra, .inl (T 2, 6, .inr (.inr (.inr (.inr (fun j => some (rd j))))))), (rd i, .inr (0, [.ref q0, .int (nI n)])), (q0, .inl (T 0, 440, .inl f))] := hD
  refine lv_astore (lv' := [(4, .ref q9), (0, .ref lo), (1, .int (nI i)), (2, .int k), (3, .ref ou)]) hx hb dL_plain_17 hl (by decide) rfl (fun ls hl => ?_)
  refine lv_iconst (v := (nI 2)) hx hb dL_plain_19 (by decide +kernel) ?_
  have hP9 := hP.sub (ws' := [(lo, .inr (2, [.ref ra, .ref d0, .ref b0, .ref t0, .ref r0])), (ra, .inl (T 2, 6, .inr (.inr (.inr (.inr (fun j => some (rd j))))))), (rd i, .inr (0, [.ref q0, .int (nI n)])), (q0, .inl (T 0, 440, .inl f)), (ou, .inl (T 3, 1, .inr (.inl o)))]) [1, 2, 3, 4, 0] rfl
  have hD9 := hD.sub (ws' := [(lo, .inr (2, [.ref ra, .ref d0, .ref b0, .ref t0, .ref r0])), (ra, .inl (T 2, 6, .inr (.inr (.inr (.inr (fun j => some (rd j))))))), (rd i, .inr (0, [.ref q0, .int (nI n)])), (q0, .inl (T 0, 440, .inl f)), (ou, .inl (T 3, 1, .inr (.inl o)))]) [1, 2, 3, 4, 0] (by decide) rfl
  refine W.widen (k := 5) (n := 1106) (by omega) (by omega) ?_
  exact W.iret (v := (nI 2)) hx hb hr (fun t ht hW => ⟨⟨(), rfl, trivial, (by rw [ht]; exact hP9), va_K.moved hW.alike hK, hD9⟩, hS.F ht⟩) hS.2.2 dL_plain_20
set_option maxHeartbeats 4000000 in
set_option maxRecDepth 100000 in
theorem h_plain_x4 (l : Launch) (D : va_G) (T : Nat → ClassId) (g : Nat → Nat) (sz : Nat) (hl9 : l.stackTraces = false) (lo : Nat) (ra : Nat) (d0 : Nat) (b0 : Nat) (t0 : Nat) (r0 : Nat) (rd : Nat → Nat) (fr : Nat) (fq : Nat) (rf : Nat → Int32) (rn : Nat) (B0 : Int32) (hd0 : Int32) (i : Nat) (q0 : Nat) (f : Nat → Int32) (n : Nat) (b : Nat → Nat) (hb9 : RB f n b) (hi : i < 6) (k : Nat) (hk : k < 3) (hw : wroB k n b = true) (ou : Nat) (o : Nat → Int64) : MUN l yL_plain wsL_plain ({ frames := 80, cells := 5, slots := 1106, locals := 4000 } : Room) D T g [.ref lo, .int (nI i), .int (nI k), .ref ou] [(lo, .inr (2, [.ref ra, .ref d0, .ref b0, .ref t0, .ref r0])), (ra, .inl (T 2, 6, .inr (.inr (.inr (.inr (fun j => some (rd j))))))), (r0, .inr (1, [.ref fr, .int B0, .int hd0])), (fr, .inr (0, [.ref fq, .int (nI rn)])), (fq, .inl (T 0, 440, .inl rf)), (rd i, .inr (0, [.ref q0, .int (nI n)])), (q0, .inl (T 0, 440, .inl f)), (ou, .inl (T 3, 1, .inr (.inl o)))] sz (fun u : (Nat → Int32) × Nat × Int32 × Int32 => some (.int (nI 2))) (fun u : (Nat → Int32) × Nat × Int32 × Int32 => True) (fun u : (Nat → Int32) × Nat × Int32 × Int32 => [(lo, .inr (2, [.ref ra, .ref d0, .ref b0, .ref t0, .ref r0])), (ra, .inl (T 2, 6, .inr (.inr (.inr (.inr (fun j => some (rd j))))))), (r0, .inr (1, [.ref fr, .int u.2.2.1, .int u.2.2.2])), (fr, .inr (0, [.ref fq, .int (nI u.2.1)])), (fq, .inl (T 0, 440, .inl u.1)), (rd i, .inr (0, [.ref q0, .int (nI n)])), (q0, .inl (T 0, 440, .inl f)), (ou, .inl (T 3, 1, .inr (.inl o)))]) 5 1106 := by
  refine va_MetW (hh := [(0, 10, 13, 13), (0, 10, 17, 15), (0, 10, 21, 57), (0, 10, 25, 17)]) (cc := cL_plain) (maxL := 5) (ret := (some .int)) (by decide) rfl ?_
  intro p e s m args below meth c s₁ B hml hv
  obtain ⟨rfl, ⟨hsz, hP, hK, hD0, hG⟩, hN⟩ := hv
  have hx := B.exec
  have hb := B.bytes
  have hr := B.returns
  have hts := atoms_spec (ws := wsL_plain) B.pre
  have hown : s.vm.findClass RL = some m.cls := findClass_of_methodNamed B.named
  have hlocks := B.notSynchronized
  have htab : c.exceptionTable.toList = tableOf [(0, 10, 13, 13), (0, 10, 17, 15), (0, 10, 21, 57), (0, 10, 25, 17)] := vx_table (x := yL_add) B (hts _ (List.mem_of_getElem? (i := 0) rfl))
  subst hsz
  have hD := hD0.self (sz := s.heap.size)
  generalize hAe : va_A [(lo, .inr (2, [.ref ra, .ref d0, .ref b0, .ref t0, .ref r0])), (ra, .inl (T 2, 6, .inr (.inr (.inr (.inr (fun j => some (rd j))))))), (r0, .inr (1, [.ref fr, .int B0, .int hd0])), (fr, .inr (0, [.ref fq, .int (nI rn)])), (fq, .inl (T 0, 440, .inl rf)), (rd i, .inr (0, [.ref q0, .int (nI n)])), (q0, .inl (T 0, 440, .inl f)), (ou, .inl (T 3, 1, .inr (.inl o)))] s.heap.size = A at hD hG ⊢
  have hA : ∀ q : Nat, s.heap.size ≤ q → A q := fun q h => by rw [← hAe]; exact Or.inr h
  have hS : va_S A s.heap s.heap [] := va_S.rf
  have hP : va_P D cls [(lo, .inr (2, [.ref ra, .ref d0, .ref b0, .ref t0, .ref r0])), (ra, .inl (T 2, 6, .inr (.inr (.inr (.inr (fun j => some (rd j))))))), (r0, .inr (1, [.ref fr, .int B0, .int hd0])), (fr, .inr (0, [.ref fq, .int (nI rn)])), (fq, .inl (T 0, 440, .inl rf)), (rd i, .inr (0, [.ref q0, .int (nI n)])), (q0, .inl (T 0, 440, .inl f)), (ou, .inl (T 3, 1, .inr (.inl o)))] s.heap := hP
  have hl := lv_entry ([.ref lo, .int (nI i), .int (nI k), .ref ou]) (n := 5) (Nat.le_of_ble_eq_true rfl)
  rw [lg_entry_eq]
  generalize (lg_sl ([.ref lo, .int (nI i), .int (nI k), .ref ou]) ++ List.replicate (5 - (lg_sl ([.ref lo, .int (nI i), .int (nI k), .ref ou])).length) Slot.unset).toArray = ls at hl ⊢
  have hl : lv_has ls 5 [(0, .ref lo), (1, .int (nI i)), (2, .int (nI k)), (3, .ref ou)] := hl
  refine lv_aload_n hx hb dL_plain_0 rfl (lv_at hl 3 rfl) ?_
  refine lv_iconst (v := (nI 0)) hx hb dL_plain_1 (by decide +kernel) ?_
  refine lv_aload_n hx hb dL_plain_2 rfl (lv_at hl 0 rfl) ?_
  refine lv_iload_n hx hb dL_plain_3 rfl (lv_at hl 1 rfl) ?_
  refine lv_iload_n hx hb dL_plain_4 rfl (lv_at hl 2 rfl) ?_
  refine tc_V (hpc := 17) (As := [.int (nI i), .int (nI k)]) (rest := [.int (nI 0), .ref ou]) (wc := [(lo, .inr (2, [.ref ra, .ref d0, .ref b0, .ref t0, .ref r0])), (ra, .inl (T 2, 6, .inr (.inr (.inr (.inr (fun j => some (rd j))))))), (r0, .inr (1, [.ref fr, .int B0, .int hd0])), (fr, .inr (0, [.ref fq, .int (nI rn)])), (fq, .inl (T 0, 440, .inl rf)), (rd i, .inr (0, [.ref q0, .int (nI n)])), (q0, .inl (T 0, 440, .inl f))]) (wr := [(ou, .inl (T 3, 1, .inr (.inl o)))]) ⟨hx, hb, hml, hown, hts⟩ (c_plain_x4 l D T g s.heap.size (hl9) lo ra d0 b0 t0 r0 rd fr fq rf rn B0 hd0 i q0 f n b (hb9) (hi) k (hk) (hw)) (cwV 2 hts gL_plain_X5_plain rfl rfl rfl (by decide +kernel) ⟨Nat.le_of_ble_eq_true rfl, Nat.le_of_ble_eq_true rfl⟩) (va_recv hK hP (ci := 2) (q0 := 0) rfl rfl) hP hD hK hG hS hA [0, 1, 2, 3, 4, 5, 6] [7] rfl (by decide) rfl (by decide) (by decide) ⟨Nat.le_of_ble_eq_true rfl, Nat.le_of_ble_eq_true rfl⟩ rfl hl.1 (Nat.le_of_ble_eq_true rfl) dL_plain_5 rfl (fun H1 locs1 q9 ce h1 h2 h3 k9 => vx_catch (name := "java/lang/IllegalArgumentException") hown [⟨0, 10, 13, 13⟩] ⟨0, 10, 17, 15⟩ [⟨0, 10, 21, 57⟩, ⟨0, 10, 25, 17⟩] (htab.trans rfl) (List.forall_mem_cons.mpr ⟨Or.inr ⟨by decide, "java/lang/IndexOutOfBoundsException", (hts _ (List.mem_of_getElem? (i := 1) rfl)), hN.1 _ (List.mem_of_getElem? (i := 0) rfl)⟩, (fun _ h => absurd h List.not_mem_nil)⟩) (by decide) (by decide) (hts _ (List.mem_of_getElem? (i := 2) rfl)) (va_Yc.word (hN.2 _ (List.mem_of_getElem? (i := 1) rfl))) h1 h2 h3 k9) (fun u q9 H locs hq5 hP hD hS => ?_)
  obtain ⟨F2_1, nF2_2, B2_3, hd2_4⟩ := u
  refine W.widen (k := 1) (n := 6) (Nat.le_of_ble_eq_true rfl) (Nat.le_of_ble_eq_true rfl) ?_
  have hP : va_P D cls [(ou, .inl (T 3, 1, .inr (.inl o))), (lo, .inr (2, [.ref ra, .ref d0, .ref b0, .ref t0, .ref r0])), (ra, .inl (T 2, 6, .inr (.inr (.inr (.inr (fun j => some (rd j))))))), (r0, .inr (1, [.ref fr, .int B2_3, .int hd2_4])), (fr, .inr (0, [.ref fq, .int (nI nF2_2)])), (fq, .inl (T 0, 440, .inl F2_1)), (rd i, .inr (0, [.ref q0, .int (nI n)])), (q0, .inl (T 0, 440, .inl f))] H := hP
  have hD : va_D A [(ou, .inl (T 3, 1, .inr (.inl o))), (lo, .inr (2, [.ref ra, .ref d0, .ref b0, .ref t0, .ref r0])), (ra, .inl (T 2, 6, .inr (.inr (.inr (.inr (fun j => some (rd j))))))), (r0, .inr (1, [.ref fr, .int B2_3, .int hd2_4])), (fr, .inr (0, [.ref fq, .int (nI nF2_2)])), (fq, .inl (T 0, 440, .inl F2_1)), (rd i, .inr (0, [.ref q0, .int (nI n)])), (q0, .inl (T 0, 440, .inl f))] := hD
  refine lv_astore (lv' := [(4, .ref q9), (0, .ref lo), (1, .int (nI i)), (2, .int (nI k)), (3, .ref ou)]) hx hb dL_plain_17 hl (by decide) rfl (fun ls hl => ?_)
  refine lv_iconst (v := (nI 2)) hx hb dL_plain_19 (by decide +kernel) ?_
  have hP9 := hP.sub (ws' := [(lo, .inr (2, [.ref ra, .ref d0, .ref b0, .ref t0, .ref r0])), (ra, .inl (T 2, 6, .inr (.inr (.inr (.inr (fun j => some (rd j))))))), (r0, .inr (1, [.ref fr, .int B2_3, .int hd2_4])), (fr, .inr (0, [.ref fq, .int (nI nF2_2)])), (fq, .inl (T 0, 440, .inl F2_1)), (rd i, .inr (0, [.ref q0, .int (nI n)])), (q0, .inl (T 0, 440, .inl f)), (ou, .inl (T 3, 1, .inr (.inl o)))]) [1, 2, 3, 4, 5, 6, 7, 0] rfl
  have hD9 := hD.sub (ws' := [(lo, .inr (2, [.ref ra, .ref d0, .ref b0, .ref t0, .ref r0])), (ra, .inl (T 2, 6, .inr (.inr (.inr (.inr (fun j => some (rd j))))))), (r0, .inr (1, [.ref fr, .int B2_3, .int hd2_4])), (fr, .inr (0, [.ref fq, .int (nI nF2_2)])), (fq, .inl (T 0, 440, .inl F2_1)), (rd i, .inr (0, [.ref q0, .int (nI n)])), (q0, .inl (T 0, 440, .inl f)), (ou, .inl (T 3, 1, .inr (.inl o)))]) [1, 2, 3, 4, 5, 6, 7, 0] (by decide) rfl
  refine W.widen (k := 5) (n := 1106) (by omega) (by omega) ?_
  exact W.iret (v := (nI 2)) hx hb hr (fun t ht hW => ⟨⟨(F2_1, nF2_2, B2_3, hd2_4), rfl, trivial, (by rw [ht]; exact hP9), va_K.moved hW.alike hK, hD9⟩, hS.F ht⟩) hS.2.2 dL_plain_20
set_option maxHeartbeats 4000000 in
set_option maxRecDepth 100000 in
theorem h_plain_x5 (l : Launch) (D : va_G) (T : Nat → ClassId) (g : Nat → Nat) (sz : Nat) (hl9 : l.stackTraces = false) (lo : Nat) (ra : Nat) (d0 : Nat) (b0 : Nat) (t0 : Nat) (r0 : Nat) (rd : Nat → Nat) (i : Nat) (q0 : Nat) (f : Nat → Int32) (n : Nat) (b : Nat → Nat) (hb9 : RB f n b) (hi : i < 6) (k : Nat) (hk : k < 3) (hw : wroB k n b = false) (hu : untB k n b = true) (ou : Nat) (o : Nat → Int64) : MUN l yL_plain wsL_plain ({ frames := 80, cells := 5, slots := 1106, locals := 4000 } : Room) D T g [.ref lo, .int (nI i), .int (nI k), .ref ou] [(lo, .inr (2, [.ref ra, .ref d0, .ref b0, .ref t0, .ref r0])), (ra, .inl (T 2, 6, .inr (.inr (.inr (.inr (fun j => some (rd j))))))), (rd i, .inr (0, [.ref q0, .int (nI n)])), (q0, .inl (T 0, 440, .inl f)), (ou, .inl (T 3, 1, .inr (.inl o)))] sz (fun u : Unit => some (.int (nI 3))) (fun u : Unit => True) (fun u : Unit => [(lo, .inr (2, [.ref ra, .ref d0, .ref b0, .ref t0, .ref r0])), (ra, .inl (T 2, 6, .inr (.inr (.inr (.inr (fun j => some (rd j))))))), (rd i, .inr (0, [.ref q0, .int (nI n)])), (q0, .inl (T 0, 440, .inl f)), (ou, .inl (T 3, 1, .inr (.inl o)))]) 5 1106 := by
  refine va_MetW (hh := [(0, 10, 13, 13), (0, 10, 17, 15), (0, 10, 21, 57), (0, 10, 25, 17)]) (cc := cL_plain) (maxL := 5) (ret := (some .int)) (by decide) rfl ?_
  intro p e s m args below meth c s₁ B hml hv
  obtain ⟨rfl, ⟨hsz, hP, hK, hD0, hG⟩, hN⟩ := hv
  have hx := B.exec
  have hb := B.bytes
  have hr := B.returns
  have hts := atoms_spec (ws := wsL_plain) B.pre
  have hown : s.vm.findClass RL = some m.cls := findClass_of_methodNamed B.named
  have hlocks := B.notSynchronized
  have htab : c.exceptionTable.toList = tableOf [(0, 10, 13, 13), (0, 10, 17, 15), (0, 10, 21, 57), (0, 10, 25, 17)] := vx_table (x := yL_add) B (hts _ (List.mem_of_getElem? (i := 0) rfl))
  subst hsz
  have hD := hD0.self (sz := s.heap.size)
  generalize hAe : va_A [(lo, .inr (2, [.ref ra, .ref d0, .ref b0, .ref t0, .ref r0])), (ra, .inl (T 2, 6, .inr (.inr (.inr (.inr (fun j => some (rd j))))))), (rd i, .inr (0, [.ref q0, .int (nI n)])), (q0, .inl (T 0, 440, .inl f)), (ou, .inl (T 3, 1, .inr (.inl o)))] s.heap.size = A at hD hG ⊢
  have hA : ∀ q : Nat, s.heap.size ≤ q → A q := fun q h => by rw [← hAe]; exact Or.inr h
  have hS : va_S A s.heap s.heap [] := va_S.rf
  have hP : va_P D cls [(lo, .inr (2, [.ref ra, .ref d0, .ref b0, .ref t0, .ref r0])), (ra, .inl (T 2, 6, .inr (.inr (.inr (.inr (fun j => some (rd j))))))), (rd i, .inr (0, [.ref q0, .int (nI n)])), (q0, .inl (T 0, 440, .inl f)), (ou, .inl (T 3, 1, .inr (.inl o)))] s.heap := hP
  have hl := lv_entry ([.ref lo, .int (nI i), .int (nI k), .ref ou]) (n := 5) (Nat.le_of_ble_eq_true rfl)
  rw [lg_entry_eq]
  generalize (lg_sl ([.ref lo, .int (nI i), .int (nI k), .ref ou]) ++ List.replicate (5 - (lg_sl ([.ref lo, .int (nI i), .int (nI k), .ref ou])).length) Slot.unset).toArray = ls at hl ⊢
  have hl : lv_has ls 5 [(0, .ref lo), (1, .int (nI i)), (2, .int (nI k)), (3, .ref ou)] := hl
  refine lv_aload_n hx hb dL_plain_0 rfl (lv_at hl 3 rfl) ?_
  refine lv_iconst (v := (nI 0)) hx hb dL_plain_1 (by decide +kernel) ?_
  refine lv_aload_n hx hb dL_plain_2 rfl (lv_at hl 0 rfl) ?_
  refine lv_iload_n hx hb dL_plain_3 rfl (lv_at hl 1 rfl) ?_
  refine lv_iload_n hx hb dL_plain_4 rfl (lv_at hl 2 rfl) ?_
  refine tc_V (hpc := 21) (As := [.int (nI i), .int (nI k)]) (rest := [.int (nI 0), .ref ou]) (wc := [(lo, .inr (2, [.ref ra, .ref d0, .ref b0, .ref t0, .ref r0])), (ra, .inl (T 2, 6, .inr (.inr (.inr (.inr (fun j => some (rd j))))))), (rd i, .inr (0, [.ref q0, .int (nI n)])), (q0, .inl (T 0, 440, .inl f))]) (wr := [(ou, .inl (T 3, 1, .inr (.inl o)))]) ⟨hx, hb, hml, hown, hts⟩ (c_plain_x5 l D T g s.heap.size (hl9) lo ra d0 b0 t0 r0 rd i q0 f n b (hb9) (hi) k (hk) (hw) (hu)) (cwV 2 hts gL_plain_X5_plain rfl rfl rfl (by decide +kernel) ⟨Nat.le_of_ble_eq_true rfl, Nat.le_of_ble_eq_true rfl⟩) (va_recv hK hP (ci := 2) (q0 := 0) rfl rfl) hP hD hK hG hS hA [0, 1, 2, 3] [4] rfl (by decide) rfl (by decide) (by decide) ⟨Nat.le_of_ble_eq_true rfl, Nat.le_of_ble_eq_true rfl⟩ rfl hl.1 (Nat.le_of_ble_eq_true rfl) dL_plain_5 rfl (fun H1 locs1 q9 ce h1 h2 h3 k9 => vx_catch (name := "java/lang/UnsupportedOperationException") hown [⟨0, 10, 13, 13⟩, ⟨0, 10, 17, 15⟩] ⟨0, 10, 21, 57⟩ [⟨0, 10, 25, 17⟩] (htab.trans rfl) (List.forall_mem_cons.mpr ⟨Or.inr ⟨by decide, "java/lang/IndexOutOfBoundsException", (hts _ (List.mem_of_getElem? (i := 1) rfl)), hN.1 _ (List.mem_of_getElem? (i := 3) rfl)⟩, (List.forall_mem_cons.mpr ⟨Or.inr ⟨by decide, "java/lang/IllegalArgumentException", (hts _ (List.mem_of_getElem? (i := 2) rfl)), hN.1 _ (List.mem_of_getElem? (i := 4) rfl)⟩, (fun _ h => absurd h List.not_mem_nil)⟩)⟩) (by decide) (by decide) (hts _ (List.mem_of_getElem? (i := 3) rfl)) (va_Yc.word (hN.2 _ (List.mem_of_getElem? (i := 3) rfl))) h1 h2 h3 k9) (fun u q9 H locs hq1 hP hD hS => ?_)
  refine W.widen (k := 1) (n := 6) (Nat.le_of_ble_eq_true rfl) (Nat.le_of_ble_eq_true rfl) ?_
  have hP : va_P D cls [(ou, .inl (T 3, 1, .inr (.inl o))), (lo, .inr (2, [.ref ra, .ref d0, .ref b0, .ref t0, .ref r0])), (ra, .inl (T 2, 6, .inr (.inr (.inr (.inr (fun j => some (rd j))))))), (rd i, .inr (0, [.ref q0, .int (nI n)])), (q0, .inl (T 0, 440, .inl f))] H := hP
  have hD : va_D A [(ou, .inl (T 3, 1, .inr (.inl o))), (lo, .inr (2, [.ref ra, .ref d0, .ref b0, .ref t0, .ref r0])), (ra, .inl (T 2, 6, .inr (.inr (.inr (.inr (fun j => some (rd j))))))), (rd i, .inr (0, [.ref q0, .int (nI n)])), (q0, .inl (T 0, 440, .inl f))] := hD
  refine lv_astore (lv' := [(4, .ref q9), (0, .ref lo), (1, .int (nI i)), (2, .int (nI k)), (3, .ref ou)]) hx hb dL_plain_21 hl (by decide) rfl (fun ls hl => ?_)
  refine lv_iconst (v := (nI 3)) hx hb dL_plain_23 (by decide +kernel) ?_
  have hP9 := hP.sub (ws' := [(lo, .inr (2, [.ref ra, .ref d0, .ref b0, .ref t0, .ref r0])), (ra, .inl (T 2, 6, .inr (.inr (.inr (.inr (fun j => some (rd j))))))), (rd i, .inr (0, [.ref q0, .int (nI n)])), (q0, .inl (T 0, 440, .inl f)), (ou, .inl (T 3, 1, .inr (.inl o)))]) [1, 2, 3, 4, 0] rfl
  have hD9 := hD.sub (ws' := [(lo, .inr (2, [.ref ra, .ref d0, .ref b0, .ref t0, .ref r0])), (ra, .inl (T 2, 6, .inr (.inr (.inr (.inr (fun j => some (rd j))))))), (rd i, .inr (0, [.ref q0, .int (nI n)])), (q0, .inl (T 0, 440, .inl f)), (ou, .inl (T 3, 1, .inr (.inl o)))]) [1, 2, 3, 4, 0] (by decide) rfl
  refine W.widen (k := 5) (n := 1106) (by omega) (by omega) ?_
  exact W.iret (v := (nI 3)) hx hb hr (fun t ht hW => ⟨⟨(), rfl, trivial, (by rw [ht]; exact hP9), va_K.moved hW.alike hK, hD9⟩, hS.F ht⟩) hS.2.2 dL_plain_24
set_option maxHeartbeats 4000000 in
set_option maxRecDepth 100000 in
theorem h_plain_x6 (l : Launch) (D : va_G) (T : Nat → ClassId) (g : Nat → Nat) (sz : Nat) (hl9 : l.stackTraces = false) (lo : Nat) (ra : Nat) (d0 : Nat) (b0 : Nat) (t0 : Nat) (r0 : Nat) (rd : Nat → Nat) (fr : Nat) (fq : Nat) (rf : Nat → Int32) (rn : Nat) (B0 : Int32) (hd0 : Int32) (i : Nat) (q0 : Nat) (f : Nat → Int32) (n : Nat) (b : Nat → Nat) (hb9 : RB f n b) (hi : i < 6) (k : Nat) (hk : k < 3) (hw : wroB k n b = false) (hu : untB k n b = false) (L9 : Nat) (hL9 : L9 = lF k n b * 6 / 8) (hn3 : n ≤ 320) (hm : 320 < lnN k L9 1) (ou : Nat) (o : Nat → Int64) : MUN l yL_plain wsL_plain ({ frames := 80, cells := 5, slots := 1106, locals := 4000 } : Room) D T g [.ref lo, .int (nI i), .int (nI k), .ref ou] [(lo, .inr (2, [.ref ra, .ref d0, .ref b0, .ref t0, .ref r0])), (ra, .inl (T 2, 6, .inr (.inr (.inr (.inr (fun j => some (rd j))))))), (r0, .inr (1, [.ref fr, .int B0, .int hd0])), (fr, .inr (0, [.ref fq, .int (nI rn)])), (fq, .inl (T 0, 440, .inl rf)), (rd i, .inr (0, [.ref q0, .int (nI n)])), (q0, .inl (T 0, 440, .inl f)), (ou, .inl (T 3, 1, .inr (.inl o)))] sz (fun u : (Nat → Int32) × Int32 × Int32 => some (.int (nI 4))) (fun u : (Nat → Int32) × Int32 × Int32 => True) (fun u : (Nat → Int32) × Int32 × Int32 => [(lo, .inr (2, [.ref ra, .ref d0, .ref b0, .ref t0, .ref r0])), (ra, .inl (T 2, 6, .inr (.inr (.inr (.inr (fun j => some (rd j))))))), (r0, .inr (1, [.ref fr, .int u.2.1, .int u.2.2])), (fr, .inr (0, [.ref fq, .int (nI L9)])), (fq, .inl (T 0, 440, .inl u.1)), (rd i, .inr (0, [.ref q0, .int (nI n)])), (q0, .inl (T 0, 440, .inl f)), (ou, .inl (T 3, 1, .inr (.inl o)))]) 5 1106 := by
  refine va_MetW (hh := [(0, 10, 13, 13), (0, 10, 17, 15), (0, 10, 21, 57), (0, 10, 25, 17)]) (cc := cL_plain) (maxL := 5) (ret := (some .int)) (by decide) rfl ?_
  intro p e s m args below meth c s₁ B hml hv
  obtain ⟨rfl, ⟨hsz, hP, hK, hD0, hG⟩, hN⟩ := hv
  have hx := B.exec
  have hb := B.bytes
  have hr := B.returns
  have hts := atoms_spec (ws := wsL_plain) B.pre
  have hown : s.vm.findClass RL = some m.cls := findClass_of_methodNamed B.named
  have hlocks := B.notSynchronized
  have htab : c.exceptionTable.toList = tableOf [(0, 10, 13, 13), (0, 10, 17, 15), (0, 10, 21, 57), (0, 10, 25, 17)] := vx_table (x := yL_add) B (hts _ (List.mem_of_getElem? (i := 0) rfl))
  subst hsz
  have hD := hD0.self (sz := s.heap.size)
  generalize hAe : va_A [(lo, .inr (2, [.ref ra, .ref d0, .ref b0, .ref t0, .ref r0])), (ra, .inl (T 2, 6, .inr (.inr (.inr (.inr (fun j => some (rd j))))))), (r0, .inr (1, [.ref fr, .int B0, .int hd0])), (fr, .inr (0, [.ref fq, .int (nI rn)])), (fq, .inl (T 0, 440, .inl rf)), (rd i, .inr (0, [.ref q0, .int (nI n)])), (q0, .inl (T 0, 440, .inl f)), (ou, .inl (T 3, 1, .inr (.inl o)))] s.heap.size = A at hD hG ⊢
  have hA : ∀ q : Nat, s.heap.size ≤ q → A q := fun q h => by rw [← hAe]; exact Or.inr h
  have hS : va_S A s.heap s.heap [] := va_S.rf
  have hP : va_P D cls [(lo, .inr (2, [.ref ra, .ref d0, .ref b0, .ref t0, .ref r0])), (ra, .inl (T 2, 6, .inr (.inr (.inr (.inr (fun j => some (rd j))))))), (r0, .inr (1, [.ref fr, .int B0, .int hd0])), (fr, .inr (0, [.ref fq, .int (nI rn)])), (fq, .inl (T 0, 440, .inl rf)), (rd i, .inr (0, [.ref q0, .int (nI n)])), (q0, .inl (T 0, 440, .inl f)), (ou, .inl (T 3, 1, .inr (.inl o)))] s.heap := hP
  have hl := lv_entry ([.ref lo, .int (nI i), .int (nI k), .ref ou]) (n := 5) (Nat.le_of_ble_eq_true rfl)
  rw [lg_entry_eq]
  generalize (lg_sl ([.ref lo, .int (nI i), .int (nI k), .ref ou]) ++ List.replicate (5 - (lg_sl ([.ref lo, .int (nI i), .int (nI k), .ref ou])).length) Slot.unset).toArray = ls at hl ⊢
  have hl : lv_has ls 5 [(0, .ref lo), (1, .int (nI i)), (2, .int (nI k)), (3, .ref ou)] := hl
  refine lv_aload_n hx hb dL_plain_0 rfl (lv_at hl 3 rfl) ?_
  refine lv_iconst (v := (nI 0)) hx hb dL_plain_1 (by decide +kernel) ?_
  refine lv_aload_n hx hb dL_plain_2 rfl (lv_at hl 0 rfl) ?_
  refine lv_iload_n hx hb dL_plain_3 rfl (lv_at hl 1 rfl) ?_
  refine lv_iload_n hx hb dL_plain_4 rfl (lv_at hl 2 rfl) ?_
  refine tc_V (hpc := 25) (As := [.int (nI i), .int (nI k)]) (rest := [.int (nI 0), .ref ou]) (wc := [(lo, .inr (2, [.ref ra, .ref d0, .ref b0, .ref t0, .ref r0])), (ra, .inl (T 2, 6, .inr (.inr (.inr (.inr (fun j => some (rd j))))))), (r0, .inr (1, [.ref fr, .int B0, .int hd0])), (fr, .inr (0, [.ref fq, .int (nI rn)])), (fq, .inl (T 0, 440, .inl rf)), (rd i, .inr (0, [.ref q0, .int (nI n)])), (q0, .inl (T 0, 440, .inl f))]) (wr := [(ou, .inl (T 3, 1, .inr (.inl o)))]) ⟨hx, hb, hml, hown, hts⟩ (c_plain_x6 l D T g s.heap.size (hl9) lo ra d0 b0 t0 r0 rd fr fq rf rn B0 hd0 i q0 f n b (hb9) (hi) k (hk) (hw) (hu) L9 (hL9) (hn3) (hm)) (cwV 2 hts gL_plain_X5_plain rfl rfl rfl (by decide +kernel) ⟨Nat.le_of_ble_eq_true rfl, Nat.le_of_ble_eq_true rfl⟩) (va_recv hK hP (ci := 2) (q0 := 0) rfl rfl) hP hD hK hG hS hA [0, 1, 2, 3, 4, 5, 6] [7] rfl (by decide) rfl (by decide) (by decide) ⟨Nat.le_of_ble_eq_true rfl, Nat.le_of_ble_eq_true rfl⟩ rfl hl.1 (Nat.le_of_ble_eq_true rfl) dL_plain_5 rfl (fun H1 locs1 q9 ce h1 h2 h3 k9 => vx_catch (name := "java/lang/IllegalStateException") hown [⟨0, 10, 13, 13⟩, ⟨0, 10, 17, 15⟩, ⟨0, 10, 21, 57⟩] ⟨0, 10, 25, 17⟩ [] (htab.trans rfl) (List.forall_mem_cons.mpr ⟨Or.inr ⟨by decide, "java/lang/IndexOutOfBoundsException", (hts _ (List.mem_of_getElem? (i := 1) rfl)), hN.1 _ (List.mem_of_getElem? (i := 1) rfl)⟩, (List.forall_mem_cons.mpr ⟨Or.inr ⟨by decide, "java/lang/IllegalArgumentException", (hts _ (List.mem_of_getElem? (i := 2) rfl)), hN.1 _ (List.mem_of_getElem? (i := 2) rfl)⟩, (List.forall_mem_cons.mpr ⟨Or.inr ⟨by decide, "java/lang/UnsupportedOperationException", (hts _ (List.mem_of_getElem? (i := 3) rfl)), hN.1 _ (List.mem_of_getElem? (i := 5) rfl)⟩, (fun _ h => absurd h List.not_mem_nil)⟩)⟩)⟩) (by decide) (by decide) (hts _ (List.mem_of_getElem? (i := 4) rfl)) (va_Yc.word (hN.2 _ (List.mem_of_getElem? (i := 2) rfl))) h1 h2 h3 k9) (fun u q9 H locs hq4 hP hD hS => ?_)
  obtain ⟨F2_1, B2_2, hd2_3⟩ := u
  refine W.widen (k := 1) (n := 6) (Nat.le_of_ble_eq_true rfl) (Nat.le_of_ble_eq_true rfl) ?_
  have hP : va_P D cls [(ou, .inl (T 3, 1, .inr (.inl o))), (lo, .inr (2, [.ref ra, .ref d0, .ref b0, .ref t0, .ref r0])), (ra, .inl (T 2, 6, .inr (.inr (.inr (.inr (fun j => some (rd j))))))), (r0, .inr (1, [.ref fr, .int B2_2, .int hd2_3])), (fr, .inr (0, [.ref fq, .int (nI L9)])), (fq, .inl (T 0, 440, .inl F2_1)), (rd i, .inr (0, [.ref q0, .int (nI n)])), (q0, .inl (T 0, 440, .inl f))] H := hP
  have hD : va_D A [(ou, .inl (T 3, 1, .inr (.inl o))), (lo, .inr (2, [.ref ra, .ref d0, .ref b0, .ref t0, .ref r0])), (ra, .inl (T 2, 6, .inr (.inr (.inr (.inr (fun j => some (rd j))))))), (r0, .inr (1, [.ref fr, .int B2_2, .int hd2_3])), (fr, .inr (0, [.ref fq, .int (nI L9)])), (fq, .inl (T 0, 440, .inl F2_1)), (rd i, .inr (0, [.ref q0, .int (nI n)])), (q0, .inl (T 0, 440, .inl f))] := hD
  refine lv_astore (lv' := [(4, .ref q9), (0, .ref lo), (1, .int (nI i)), (2, .int (nI k)), (3, .ref ou)]) hx hb dL_plain_25 hl (by decide) rfl (fun ls hl => ?_)
  refine lv_iconst (v := (nI 4)) hx hb dL_plain_27 (by decide +kernel) ?_
  have hP9 := hP.sub (ws' := [(lo, .inr (2, [.ref ra, .ref d0, .ref b0, .ref t0, .ref r0])), (ra, .inl (T 2, 6, .inr (.inr (.inr (.inr (fun j => some (rd j))))))), (r0, .inr (1, [.ref fr, .int B2_2, .int hd2_3])), (fr, .inr (0, [.ref fq, .int (nI L9)])), (fq, .inl (T 0, 440, .inl F2_1)), (rd i, .inr (0, [.ref q0, .int (nI n)])), (q0, .inl (T 0, 440, .inl f)), (ou, .inl (T 3, 1, .inr (.inl o)))]) [1, 2, 3, 4, 5, 6, 7, 0] rfl
  have hD9 := hD.sub (ws' := [(lo, .inr (2, [.ref ra, .ref d0, .ref b0, .ref t0, .ref r0])), (ra, .inl (T 2, 6, .inr (.inr (.inr (.inr (fun j => some (rd j))))))), (r0, .inr (1, [.ref fr, .int B2_2, .int hd2_3])), (fr, .inr (0, [.ref fq, .int (nI L9)])), (fq, .inl (T 0, 440, .inl F2_1)), (rd i, .inr (0, [.ref q0, .int (nI n)])), (q0, .inl (T 0, 440, .inl f)), (ou, .inl (T 3, 1, .inr (.inl o)))]) [1, 2, 3, 4, 5, 6, 7, 0] (by decide) rfl
  refine W.widen (k := 5) (n := 1106) (by omega) (by omega) ?_
  exact W.iret (v := (nI 4)) hx hb hr (fun t ht hW => ⟨⟨(F2_1, B2_2, hd2_3), rfl, trivial, (by rw [ht]; exact hP9), va_K.moved hW.alike hK, hD9⟩, hS.F ht⟩) hS.2.2 dL_plain_28
set_option maxHeartbeats 4000000 in
set_option maxRecDepth 100000 in
theorem h_plain (l : Launch) (D : va_G) (T : Nat → ClassId) (g : Nat → Nat) (sz : Nat) (lo : Nat) (ra : Nat) (d0 : Nat) (b0 : Nat) (t0 : Nat) (r0 : Nat) (rd : Nat → Nat) (fr : Nat) (fq : Nat) (rf : Nat → Int32) (rn : Nat) (B0 : Int32) (hd0 : Int32) (i : Nat) (q0 : Nat) (f : Nat → Int32) (n : Nat) (b : Nat → Nat) (hb9 : RB f n b) (hi : i < 6) (k : Nat) (hk : k < 3) (hw : wroB k n b = false) (hu : untB k n b = false) (L9 : Nat) (hL9 : L9 = lF k n b * 6 / 8) (hn3 : n ≤ 320) (hm : lnN k L9 1 ≤ 320) (ou : Nat) (o : Nat → Int64) : MUN l yL_plain wsL_plain ({ frames := 80, cells := 5, slots := 1106, locals := 4000 } : Room) D T g [.ref lo, .int (nI i), .int (nI k), .ref ou] [(lo, .inr (2, [.ref ra, .ref d0, .ref b0, .ref t0, .ref r0])), (ra, .inl (T 2, 6, .inr (.inr (.inr (.inr (fun j => some (rd j))))))), (r0, .inr (1, [.ref fr, .int B0, .int hd0])), (fr, .inr (0, [.ref fq, .int (nI rn)])), (fq, .inl (T 0, 440, .inl rf)), (rd i, .inr (0, [.ref q0, .int (nI n)])), (q0, .inl (T 0, 440, .inl f)), (ou, .inl (T 3, 1, .inr (.inl o)))] sz (fun u : (Nat → Int32) × Int32 × Int32 × (Nat → Int32) => some (.int (nI 0))) (fun u : (Nat → Int32) × Int32 × Int32 × (Nat → Int32) => RB u.2.2.2 (lnN k L9 1) (wrA k L9 (outB (lwF k n b)))) (fun u : (Nat → Int32) × Int32 × Int32 × (Nat → Int32) => [(lo, .inr (2, [.ref ra, .ref d0, .ref b0, .ref t0, .ref r0])), (ra, .inl (T 2, 6, .inr (.inr (.inr (.inr (fun j => some (rd j))))))), (r0, .inr (1, [.ref fr, .int u.2.1, .int u.2.2.1])), (fr, .inr (0, [.ref fq, .int (nI L9)])), (fq, .inl (T 0, 440, .inl u.1)), (rd i, .inr (0, [.ref q0, .int (nI (lnN k L9 1))])), (q0, .inl (T 0, 440, .inl u.2.2.2)), (ou, .inl (T 3, 1, .inr (.inl (vp_updL o 0 (lN (lnN k L9 1))))))]) 5 1106 := by
  refine va_MetW (hh := [(0, 10, 13, 13), (0, 10, 17, 15), (0, 10, 21, 57), (0, 10, 25, 17)]) (cc := cL_plain) (maxL := 5) (ret := (some .int)) (by decide) rfl ?_
  intro p e s m args below meth c s₁ B hml hv
  obtain ⟨rfl, ⟨hsz, hP, hK, hD0, hG⟩, hN⟩ := hv
  have hx := B.exec
  have hb := B.bytes
  have hr := B.returns
  have hts := atoms_spec (ws := wsL_plain) B.pre
  have hown : s.vm.findClass RL = some m.cls := findClass_of_methodNamed B.named
  have hlocks := B.notSynchronized
  have htab : c.exceptionTable.toList = tableOf [(0, 10, 13, 13), (0, 10, 17, 15), (0, 10, 21, 57), (0, 10, 25, 17)] := vx_table (x := yL_add) B (hts _ (List.mem_of_getElem? (i := 0) rfl))
  subst hsz
  have hD := hD0.self (sz := s.heap.size)
  generalize hAe : va_A [(lo, .inr (2, [.ref ra, .ref d0, .ref b0, .ref t0, .ref r0])), (ra, .inl (T 2, 6, .inr (.inr (.inr (.inr (fun j => some (rd j))))))), (r0, .inr (1, [.ref fr, .int B0, .int hd0])), (fr, .inr (0, [.ref fq, .int (nI rn)])), (fq, .inl (T 0, 440, .inl rf)), (rd i, .inr (0, [.ref q0, .int (nI n)])), (q0, .inl (T 0, 440, .inl f)), (ou, .inl (T 3, 1, .inr (.inl o)))] s.heap.size = A at hD hG ⊢
  have hA : ∀ q : Nat, s.heap.size ≤ q → A q := fun q h => by rw [← hAe]; exact Or.inr h
  have hS : va_S A s.heap s.heap [] := va_S.rf
  have hP : va_P D cls [(lo, .inr (2, [.ref ra, .ref d0, .ref b0, .ref t0, .ref r0])), (ra, .inl (T 2, 6, .inr (.inr (.inr (.inr (fun j => some (rd j))))))), (r0, .inr (1, [.ref fr, .int B0, .int hd0])), (fr, .inr (0, [.ref fq, .int (nI rn)])), (fq, .inl (T 0, 440, .inl rf)), (rd i, .inr (0, [.ref q0, .int (nI n)])), (q0, .inl (T 0, 440, .inl f)), (ou, .inl (T 3, 1, .inr (.inl o)))] s.heap := hP
  have hl := lv_entry ([.ref lo, .int (nI i), .int (nI k), .ref ou]) (n := 5) (Nat.le_of_ble_eq_true rfl)
  rw [lg_entry_eq]
  generalize (lg_sl ([.ref lo, .int (nI i), .int (nI k), .ref ou]) ++ List.replicate (5 - (lg_sl ([.ref lo, .int (nI i), .int (nI k), .ref ou])).length) Slot.unset).toArray = ls at hl ⊢
  have hl : lv_has ls 5 [(0, .ref lo), (1, .int (nI i)), (2, .int (nI k)), (3, .ref ou)] := hl
  refine lv_aload_n hx hb dL_plain_0 rfl (lv_at hl 3 rfl) ?_
  refine lv_iconst (v := (nI 0)) hx hb dL_plain_1 (by decide +kernel) ?_
  refine lv_aload_n hx hb dL_plain_2 rfl (lv_at hl 0 rfl) ?_
  refine lv_iload_n hx hb dL_plain_3 rfl (lv_at hl 1 rfl) ?_
  refine lv_iload_n hx hb dL_plain_4 rfl (lv_at hl 2 rfl) ?_
  refine mu_V (As := [.int (nI i), .int (nI k)]) (rest := [.int (nI 0), .ref ou]) (wc := [(lo, .inr (2, [.ref ra, .ref d0, .ref b0, .ref t0, .ref r0])), (ra, .inl (T 2, 6, .inr (.inr (.inr (.inr (fun j => some (rd j))))))), (r0, .inr (1, [.ref fr, .int B0, .int hd0])), (fr, .inr (0, [.ref fq, .int (nI rn)])), (fq, .inl (T 0, 440, .inl rf)), (rd i, .inr (0, [.ref q0, .int (nI n)])), (q0, .inl (T 0, 440, .inl f))]) (wr := [(ou, .inl (T 3, 1, .inr (.inl o)))]) ⟨hx, hb, hml, hown, hts⟩ (c_plain l D T g s.heap.size lo ra d0 b0 t0 r0 rd fr fq rf rn B0 hd0 i q0 f n b (hb9) (hi) k (hk) (hw) (hu) L9 (hL9) (hn3) (hm)) (cwV 2 hts gL_plain_X5_plain rfl rfl rfl (by decide +kernel) ⟨Nat.le_of_ble_eq_true rfl, Nat.le_of_ble_eq_true rfl⟩) (va_recv hK hP (ci := 2) (q0 := 0) rfl rfl) hP hD hK hG hS hA [0, 1, 2, 3, 4, 5, 6] [7] rfl (by decide) rfl (by decide) (by decide) ⟨Nat.le_of_ble_eq_true rfl, Nat.le_of_ble_eq_true rfl⟩ rfl hl.1 (Nat.le_of_ble_eq_true rfl) dL_plain_5 rfl (fun u H locs hq5 hP hD hS => ?_)
  obtain ⟨F2_1, B2_2, hd2_3, G_4⟩ := u
  have hP : va_P D cls [(ou, .inl (T 3, 1, .inr (.inl o))), (lo, .inr (2, [.ref ra, .ref d0, .ref b0, .ref t0, .ref r0])), (ra, .inl (T 2, 6, .inr (.inr (.inr (.inr (fun j => some (rd j))))))), (r0, .inr (1, [.ref fr, .int B2_2, .int hd2_3])), (fr, .inr (0, [.ref fq, .int (nI L9)])), (fq, .inl (T 0, 440, .inl F2_1)), (rd i, .inr (0, [.ref q0, .int (nI (lnN k L9 1))])), (q0, .inl (T 0, 440, .inl G_4))] H := hP
  have hD : va_D A [(ou, .inl (T 3, 1, .inr (.inl o))), (lo, .inr (2, [.ref ra, .ref d0, .ref b0, .ref t0, .ref r0])), (ra, .inl (T 2, 6, .inr (.inr (.inr (.inr (fun j => some (rd j))))))), (r0, .inr (1, [.ref fr, .int B2_2, .int hd2_3])), (fr, .inr (0, [.ref fq, .int (nI L9)])), (fq, .inl (T 0, 440, .inl F2_1)), (rd i, .inr (0, [.ref q0, .int (nI (lnN k L9 1))])), (q0, .inl (T 0, 440, .inl G_4))] := hD
  have hp1 : RB G_4 (lnN k L9 1) (wrA k L9 (outB (lwF k n b))) := hq5
  refine W.eq (g2 := F0 m 8 ls [.int (nI (lnN k L9 1)), .int (nI 0), .ref ou]) rfl ?_
  refine lv_i2l hx hb dL_plain_8 (v := lN (lnN k L9 1)) (nI_l (by omega)) ?_
  refine va_last hx hb hK hP hD hS 0 3 rfl rfl (vp_in_nI (by omega) (by omega)) dL_plain_9 (fun H locs hP hD hS => ?_)
  rw [nI_clamp (by omega)] at hP hD
  have hP : va_P D cls [(ou, .inl (T 3, 1, .inr (.inl (vp_updL o 0 (lN (lnN k L9 1)))))), (lo, .inr (2, [.ref ra, .ref d0, .ref b0, .ref t0, .ref r0])), (ra, .inl (T 2, 6, .inr (.inr (.inr (.inr (fun j => some (rd j))))))), (r0, .inr (1, [.ref fr, .int B2_2, .int hd2_3])), (fr, .inr (0, [.ref fq, .int (nI L9)])), (fq, .inl (T 0, 440, .inl F2_1)), (rd i, .inr (0, [.ref q0, .int (nI (lnN k L9 1))])), (q0, .inl (T 0, 440, .inl G_4))] H := hP
  have hD : va_D A [(ou, .inl (T 3, 1, .inr (.inl (vp_updL o 0 (lN (lnN k L9 1)))))), (lo, .inr (2, [.ref ra, .ref d0, .ref b0, .ref t0, .ref r0])), (ra, .inl (T 2, 6, .inr (.inr (.inr (.inr (fun j => some (rd j))))))), (r0, .inr (1, [.ref fr, .int B2_2, .int hd2_3])), (fr, .inr (0, [.ref fq, .int (nI L9)])), (fq, .inl (T 0, 440, .inl F2_1)), (rd i, .inr (0, [.ref q0, .int (nI (lnN k L9 1))])), (q0, .inl (T 0, 440, .inl G_4))] := hD
  refine lv_goto (tgt := 29) hx hb dL_plain_10 (by decide) ?_
  refine lv_iconst (v := (nI 0)) hx hb dL_plain_29 (by decide +kernel) ?_
  have hP9 := hP.sub (ws' := [(lo, .inr (2, [.ref ra, .ref d0, .ref b0, .ref t0, .ref r0])), (ra, .inl (T 2, 6, .inr (.inr (.inr (.inr (fun j => some (rd j))))))), (r0, .inr (1, [.ref fr, .int B2_2, .int hd2_3])), (fr, .inr (0, [.ref fq, .int (nI L9)])), (fq, .inl (T 0, 440, .inl F2_1)), (rd i, .inr (0, [.ref q0, .int (nI (lnN k L9 1))])), (q0, .inl (T 0, 440, .inl G_4)), (ou, .inl (T 3, 1, .inr (.inl (vp_updL o 0 (lN (lnN k L9 1))))))]) [1, 2, 3, 4, 5, 6, 7, 0] rfl
  have hD9 := hD.sub (ws' := [(lo, .inr (2, [.ref ra, .ref d0, .ref b0, .ref t0, .ref r0])), (ra, .inl (T 2, 6, .inr (.inr (.inr (.inr (fun j => some (rd j))))))), (r0, .inr (1, [.ref fr, .int B2_2, .int hd2_3])), (fr, .inr (0, [.ref fq, .int (nI L9)])), (fq, .inl (T 0, 440, .inl F2_1)), (rd i, .inr (0, [.ref q0, .int (nI (lnN k L9 1))])), (q0, .inl (T 0, 440, .inl G_4)), (ou, .inl (T 3, 1, .inr (.inl (vp_updL o 0 (lN (lnN k L9 1))))))]) [1, 2, 3, 4, 5, 6, 7, 0] (by decide) rfl
  refine W.widen (k := 5) (n := 1106) (by omega) (by omega) ?_
  exact W.iret (v := (nI 0)) hx hb hr (fun t ht hW => ⟨⟨(F2_1, B2_2, hd2_3, G_4), rfl, show RB G_4 (lnN k L9 1) (wrA k L9 (outB (lwF k n b))) from hp1, (by rw [ht]; exact hP9), va_K.moved hW.alike hK, hD9⟩, hS.F ht⟩) hS.2.2 dL_plain_30
set_option maxHeartbeats 4000000 in
set_option maxRecDepth 100000 in
theorem h_letterShare_x1 (l : Launch) (D : va_G) (T : Nat → ClassId) (g : Nat → Nat) (sz : Nat) (hl9 : l.stackTraces = false) (lo : Nat) (ra : Nat) (d0 : Nat) (b0 : Nat) (t0 : Nat) (r0 : Nat) (rd : Nat → Nat) (i : Int32) (hi : i < 0 ∨ ¬ i < nI 6) (x0 : Int32) (ou : Nat) (oD : Nat → UInt64) : MUN l yL_letterShare wsL_letterShare ({ frames := 80, cells := 5, slots := 1106, locals := 4000 } : Room) D T g [.ref lo, .int i, .int x0, .ref ou] [(lo, .inr (2, [.ref ra, .ref d0, .ref b0, .ref t0, .ref r0])), (ra, .inl (T 2, 6, .inr (.inr (.inr (.inr (fun j => some (rd j))))))), (ou, .inl (T 4, 1, .inr (.inr (.inr (.inl oD)))))] sz (fun u : Unit => some (.int (nI 1))) (fun u : Unit => True) (fun u : Unit => [(lo, .inr (2, [.ref ra, .ref d0, .ref b0, .ref t0, .ref r0])), (ra, .inl (T 2, 6, .inr (.inr (.inr (.inr (fun j => some (rd j))))))), (ou, .inl (T 4, 1, .inr (.inr (.inr (.inl oD)))))]) 5 1106 := by
  refine va_MetW (hh := [(0, 10, 13, 13), (0, 10, 17, 15), (0, 10, 21, 75)]) (cc := cL_letterShare) (maxL := 5) (ret := (some .int)) (by decide) rfl ?_
  intro p e s m args below meth c s₁ B hml hv
  obtain ⟨rfl, ⟨hsz, hP, hK, hD0, hG⟩, hN⟩ := hv
  have hx := B.exec
  have hb := B.bytes
  have hr := B.returns
  have hts := atoms_spec (ws := wsL_letterShare) B.pre
  have hown : s.vm.findClass RL = some m.cls := findClass_of_methodNamed B.named
  have hlocks := B.notSynchronized
  have htab : c.exceptionTable.toList = tableOf [(0, 10, 13, 13), (0, 10, 17, 15), (0, 10, 21, 75)] := vx_table (x := yL_add) B (hts _ (List.mem_of_getElem? (i := 0) rfl))
  subst hsz
  have hD := hD0.self (sz := s.heap.size)
  generalize hAe : va_A [(lo, .inr (2, [.ref ra, .ref d0, .ref b0, .ref t0, .ref r0])), (ra, .inl (T 2, 6, .inr (.inr (.inr (.inr (fun j => some (rd j))))))), (ou, .inl (T 4, 1, .inr (.inr (.inr (.inl oD)))))] s.heap.size = A at hD hG ⊢
  have hA : ∀ q : Nat, s.heap.size ≤ q → A q := fun q h => by rw [← hAe]; exact Or.inr h
  have hS : va_S A s.heap s.heap [] := va_S.rf
  have hP : va_P D cls [(lo, .inr (2, [.ref ra, .ref d0, .ref b0, .ref t0, .ref r0])), (ra, .inl (T 2, 6, .inr (.inr (.inr (.inr (fun j => some (rd j))))))), (ou, .inl (T 4, 1, .inr (.inr (.inr (.inl oD)))))] s.heap := hP
  have hl := lv_entry ([.ref lo, .int i, .int x0, .ref ou]) (n := 5) (Nat.le_of_ble_eq_true rfl)
  rw [lg_entry_eq]
  generalize (lg_sl ([.ref lo, .int i, .int x0, .ref ou]) ++ List.replicate (5 - (lg_sl ([.ref lo, .int i, .int x0, .ref ou])).length) Slot.unset).toArray = ls at hl ⊢
  have hl : lv_has ls 5 [(0, .ref lo), (1, .int i), (2, .int x0), (3, .ref ou)] := hl
  refine lv_aload_n hx hb dL_letterShare_0 rfl (lv_at hl 3 rfl) ?_
  refine lv_iconst (v := (nI 0)) hx hb dL_letterShare_1 (by decide +kernel) ?_
  refine lv_aload_n hx hb dL_letterShare_2 rfl (lv_at hl 0 rfl) ?_
  refine lv_iload_n hx hb dL_letterShare_3 rfl (lv_at hl 1 rfl) ?_
  refine lv_iload_n hx hb dL_letterShare_4 rfl (lv_at hl 2 rfl) ?_
  refine tc_V (hpc := 13) (As := [.int i, .int x0]) (rest := [.int (nI 0), .ref ou]) (wc := [(lo, .inr (2, [.ref ra, .ref d0, .ref b0, .ref t0, .ref r0])), (ra, .inl (T 2, 6, .inr (.inr (.inr (.inr (fun j => some (rd j)))))))]) (wr := [(ou, .inl (T 4, 1, .inr (.inr (.inr (.inl oD)))))]) ⟨hx, hb, hml, hown, hts⟩ (c_letterShare_x1 l D T g s.heap.size (hl9) lo ra d0 b0 t0 r0 rd i (hi) x0) (cwV 2 hts gL_letterShare_X5_letterShare rfl rfl rfl (by decide +kernel) ⟨Nat.le_of_ble_eq_true rfl, Nat.le_of_ble_eq_true rfl⟩) (va_recv hK hP (ci := 2) (q0 := 0) rfl rfl) hP hD hK hG hS hA [0, 1] [2] rfl (by decide) rfl (by decide) (by decide) ⟨Nat.le_of_ble_eq_true rfl, Nat.le_of_ble_eq_true rfl⟩ rfl hl.1 (Nat.le_of_ble_eq_true rfl) dL_letterShare_5 rfl (fun H1 locs1 q9 ce h1 h2 h3 k9 => vx_catch (name := "java/lang/IndexOutOfBoundsException") hown [] ⟨0, 10, 13, 13⟩ [⟨0, 10, 17, 15⟩, ⟨0, 10, 21, 75⟩] (htab.trans rfl) (fun _ h => absurd h List.not_mem_nil) (by decide) (by decide) (hts _ (List.mem_of_getElem? (i := 1) rfl)) (va_Yc.word (hN.2 _ (List.mem_of_getElem? (i := 0) rfl))) h1 h2 h3 k9) (fun u q9 H locs hq1 hP hD hS => ?_)
  refine W.widen (k := 1) (n := 6) (Nat.le_of_ble_eq_true rfl) (Nat.le_of_ble_eq_true rfl) ?_
  have hP : va_P D cls [(ou, .inl (T 4, 1, .inr (.inr (.inr (.inl oD))))), (lo, .inr (2, [.ref ra, .ref d0, .ref b0, .ref t0, .ref r0])), (ra, .inl (T 2, 6, .inr (.inr (.inr (.inr (fun j => some (rd j)))))))] H := hP
  have hD : va_D A [(ou, .inl (T 4, 1, .inr (.inr (.inr (.inl oD))))), (lo, .inr (2, [.ref ra, .ref d0, .ref b0, .ref t0, .ref r0])), (ra, .inl (T 2, 6, .inr (.inr (.inr (.inr (fun j => some (rd j)))))))] := hD
  refine lv_astore (lv' := [(4, .ref q9), (0, .ref lo), (1, .int i), (2, .int x0), (3, .ref ou)]) hx hb dL_letterShare_13 hl (by decide) rfl (fun ls hl => ?_)
  refine lv_iconst (v := (nI 1)) hx hb dL_letterShare_15 (by decide +kernel) ?_
  have hP9 := hP.sub (ws' := [(lo, .inr (2, [.ref ra, .ref d0, .ref b0, .ref t0, .ref r0])), (ra, .inl (T 2, 6, .inr (.inr (.inr (.inr (fun j => some (rd j))))))), (ou, .inl (T 4, 1, .inr (.inr (.inr (.inl oD)))))]) [1, 2, 0] rfl
  have hD9 := hD.sub (ws' := [(lo, .inr (2, [.ref ra, .ref d0, .ref b0, .ref t0, .ref r0])), (ra, .inl (T 2, 6, .inr (.inr (.inr (.inr (fun j => some (rd j))))))), (ou, .inl (T 4, 1, .inr (.inr (.inr (.inl oD)))))]) [1, 2, 0] (by decide) rfl
  refine W.widen (k := 5) (n := 1106) (by omega) (by omega) ?_
  exact W.iret (v := (nI 1)) hx hb hr (fun t ht hW => ⟨⟨(), rfl, trivial, (by rw [ht]; exact hP9), va_K.moved hW.alike hK, hD9⟩, hS.F ht⟩) hS.2.2 dL_letterShare_16
set_option maxHeartbeats 4000000 in
set_option maxRecDepth 100000 in
theorem h_letterShare_x2 (l : Launch) (D : va_G) (T : Nat → ClassId) (g : Nat → Nat) (sz : Nat) (hl9 : l.stackTraces = false) (lo : Nat) (ra : Nat) (d0 : Nat) (b0 : Nat) (t0 : Nat) (r0 : Nat) (rd : Nat → Nat) (i : Nat) (q0 : Nat) (f : Nat → Int32) (n : Nat) (hi : i < 6) (k : Int32) (hk : k < 0 ∨ ¬ k < nI 3) (ou : Nat) (oD : Nat → UInt64) : MUN l yL_letterShare wsL_letterShare ({ frames := 80, cells := 5, slots := 1106, locals := 4000 } : Room) D T g [.ref lo, .int (nI i), .int k, .ref ou] [(lo, .inr (2, [.ref ra, .ref d0, .ref b0, .ref t0, .ref r0])), (ra, .inl (T 2, 6, .inr (.inr (.inr (.inr (fun j => some (rd j))))))), (rd i, .inr (0, [.ref q0, .int (nI n)])), (q0, .inl (T 0, 440, .inl f)), (ou, .inl (T 4, 1, .inr (.inr (.inr (.inl oD)))))] sz (fun u : Unit => some (.int (nI 2))) (fun u : Unit => True) (fun u : Unit => [(lo, .inr (2, [.ref ra, .ref d0, .ref b0, .ref t0, .ref r0])), (ra, .inl (T 2, 6, .inr (.inr (.inr (.inr (fun j => some (rd j))))))), (rd i, .inr (0, [.ref q0, .int (nI n)])), (q0, .inl (T 0, 440, .inl f)), (ou, .inl (T 4, 1, .inr (.inr (.inr (.inl oD)))))]) 5 1106 := by
  refine va_MetW (hh := [(0, 10, 13, 13), (0, 10, 17, 15), (0, 10, 21, 75)]) (cc := cL_letterShare) (maxL := 5) (ret := (some .int)) (by decide) rfl ?_
  intro p e s m args below meth c s₁ B hml hv
  obtain ⟨rfl, ⟨hsz, hP, hK, hD0, hG⟩, hN⟩ := hv
  have hx := B.exec
  have hb := B.bytes
  have hr := B.returns
  have hts := atoms_spec (ws := wsL_letterShare) B.pre
  have hown : s.vm.findClass RL = some m.cls := findClass_of_methodNamed B.named
  have hlocks := B.notSynchronized
  have htab : c.exceptionTable.toList = tableOf [(0, 10, 13, 13), (0, 10, 17, 15), (0, 10, 21, 75)] := vx_table (x := yL_add) B (hts _ (List.mem_of_getElem? (i := 0) rfl))
  subst hsz
  have hD := hD0.self (sz := s.heap.size)
  generalize hAe : va_A [(lo, .inr (2, [.ref ra, .ref d0, .ref b0, .ref t0, .ref r0])), (ra, .inl (T 2, 6, .inr (.inr (.inr (.inr (fun j => some (rd j))))))), (rd i, .inr (0, [.ref q0, .int (nI n)])), (q0, .inl (T 0, 440, .inl f)), (ou, .inl (T 4, 1, .inr (.inr (.inr (.inl oD)))))] s.heap.size = A at hD hG ⊢
  have hA : ∀ q : Nat, s.heap.size ≤ q → A q := fun q h => by rw [← hAe]; exact Or.inr h
  have hS : va_S A s.heap s.heap [] := va_S.rf
  have hP : va_P D cls [(lo, .inr (2, [.ref ra, .ref d0, .ref b0, .ref t0, .ref r0])), (ra, .inl (T 2, 6, .inr (.inr (.inr (.inr (fun j => some (rd j))))))), (rd i, .inr (0, [.ref q0, .int (nI n)])), (q0, .inl (T 0, 440, .inl f)), (ou, .inl (T 4, 1, .inr (.inr (.inr (.inl oD)))))] s.heap := hP
  have hl := lv_entry ([.ref lo, .int (nI i), .int k, .ref ou]) (n := 5) (Nat.le_of_ble_eq_true rfl)
  rw [lg_entry_eq]
  generalize (lg_sl ([.ref lo, .int (nI i), .int k, .ref ou]) ++ List.replicate (5 - (lg_sl ([.ref lo, .int (nI i), .int k, .ref ou])).length) Slot.unset).toArray = ls at hl ⊢
  have hl : lv_has ls 5 [(0, .ref lo), (1, .int (nI i)), (2, .int k), (3, .ref ou)] := hl
  refine lv_aload_n hx hb dL_letterShare_0 rfl (lv_at hl 3 rfl) ?_
  refine lv_iconst (v := (nI 0)) hx hb dL_letterShare_1 (by decide +kernel) ?_
  refine lv_aload_n hx hb dL_letterShare_2 rfl (lv_at hl 0 rfl) ?_
  refine lv_iload_n hx hb dL_letterShare_3 rfl (lv_at hl 1 rfl) ?_
  refine lv_iload_n hx hb dL_letterShare_4 rfl (lv_at hl 2 rfl) ?_
  refine tc_V (hpc := 17) (As := [.int (nI i), .int k]) (rest := [.int (nI 0), .ref ou]) (wc := [(lo, .inr (2, [.ref ra, .ref d0, .ref b0, .ref t0, .ref r0])), (ra, .inl (T 2, 6, .inr (.inr (.inr (.inr (fun j => some (rd j))))))), (rd i, .inr (0, [.ref q0, .int (nI n)])), (q0, .inl (T 0, 440, .inl f))]) (wr := [(ou, .inl (T 4, 1, .inr (.inr (.inr (.inl oD)))))]) ⟨hx, hb, hml, hown, hts⟩ (c_letterShare_x2 l D T g s.heap.size (hl9) lo ra d0 b0 t0 r0 rd i q0 f n (hi) k (hk)) (cwV 2 hts gL_letterShare_X5_letterShare rfl rfl rfl (by decide +kernel) ⟨Nat.le_of_ble_eq_true rfl, Nat.le_of_ble_eq_true rfl⟩) (va_recv hK hP (ci := 2) (q0 := 0) rfl rfl) hP hD hK hG hS hA [0, 1, 2, 3] [4] rfl (by decide) rfl (by decide) (by decide) ⟨Nat.le_of_ble_eq_true rfl, Nat.le_of_ble_eq_true rfl⟩ rfl hl.1 (Nat.le_of_ble_eq_true rfl) dL_letterShare_5 rfl (fun H1 locs1 q9 ce h1 h2 h3 k9 => vx_catch (name := "java/lang/IllegalArgumentException") hown [⟨0, 10, 13, 13⟩] ⟨0, 10, 17, 15⟩ [⟨0, 10, 21, 75⟩] (htab.trans rfl) (List.forall_mem_cons.mpr ⟨Or.inr ⟨by decide, "java/lang/IndexOutOfBoundsException", (hts _ (List.mem_of_getElem? (i := 1) rfl)), hN.1 _ (List.mem_of_getElem? (i := 0) rfl)⟩, (fun _ h => absurd h List.not_mem_nil)⟩) (by decide) (by decide) (hts _ (List.mem_of_getElem? (i := 2) rfl)) (va_Yc.word (hN.2 _ (List.mem_of_getElem? (i := 1) rfl))) h1 h2 h3 k9) (fun u q9 H locs hq1 hP hD hS => ?_)
  refine W.widen (k := 1) (n := 6) (Nat.le_of_ble_eq_true rfl) (Nat.le_of_ble_eq_true rfl) ?_
  have hP : va_P D cls [(ou, .inl (T 4, 1, .inr (.inr (.inr (.inl oD))))), (lo, .inr (2, [.ref ra, .ref d0, .ref b0, .ref t0, .ref r0])), (ra, .inl (T 2, 6, .inr (.inr (.inr (.inr (fun j => some (rd j))))))), (rd i, .inr (0, [.ref q0, .int (nI n)])), (q0, .inl (T 0, 440, .inl f))] H := hP
  have hD : va_D A [(ou, .inl (T 4, 1, .inr (.inr (.inr (.inl oD))))), (lo, .inr (2, [.ref ra, .ref d0, .ref b0, .ref t0, .ref r0])), (ra, .inl (T 2, 6, .inr (.inr (.inr (.inr (fun j => some (rd j))))))), (rd i, .inr (0, [.ref q0, .int (nI n)])), (q0, .inl (T 0, 440, .inl f))] := hD
  refine lv_astore (lv' := [(4, .ref q9), (0, .ref lo), (1, .int (nI i)), (2, .int k), (3, .ref ou)]) hx hb dL_letterShare_17 hl (by decide) rfl (fun ls hl => ?_)
  refine lv_iconst (v := (nI 2)) hx hb dL_letterShare_19 (by decide +kernel) ?_
  have hP9 := hP.sub (ws' := [(lo, .inr (2, [.ref ra, .ref d0, .ref b0, .ref t0, .ref r0])), (ra, .inl (T 2, 6, .inr (.inr (.inr (.inr (fun j => some (rd j))))))), (rd i, .inr (0, [.ref q0, .int (nI n)])), (q0, .inl (T 0, 440, .inl f)), (ou, .inl (T 4, 1, .inr (.inr (.inr (.inl oD)))))]) [1, 2, 3, 4, 0] rfl
  have hD9 := hD.sub (ws' := [(lo, .inr (2, [.ref ra, .ref d0, .ref b0, .ref t0, .ref r0])), (ra, .inl (T 2, 6, .inr (.inr (.inr (.inr (fun j => some (rd j))))))), (rd i, .inr (0, [.ref q0, .int (nI n)])), (q0, .inl (T 0, 440, .inl f)), (ou, .inl (T 4, 1, .inr (.inr (.inr (.inl oD)))))]) [1, 2, 3, 4, 0] (by decide) rfl
  refine W.widen (k := 5) (n := 1106) (by omega) (by omega) ?_
  exact W.iret (v := (nI 2)) hx hb hr (fun t ht hW => ⟨⟨(), rfl, trivial, (by rw [ht]; exact hP9), va_K.moved hW.alike hK, hD9⟩, hS.F ht⟩) hS.2.2 dL_letterShare_20
set_option maxHeartbeats 4000000 in
set_option maxRecDepth 100000 in
theorem h_letterShare_x3 (l : Launch) (D : va_G) (T : Nat → ClassId) (g : Nat → Nat) (sz : Nat) (hl9 : l.stackTraces = false) (lo : Nat) (ra : Nat) (d0 : Nat) (b0 : Nat) (t0 : Nat) (r0 : Nat) (rd : Nat → Nat) (i : Nat) (q0 : Nat) (f : Nat → Int32) (n : Nat) (hi : i < 6) (k : Nat) (hk : k < 3) (hn : n = 0) (ou : Nat) (oD : Nat → UInt64) : MUN l yL_letterShare wsL_letterShare ({ frames := 80, cells := 5, slots := 1106, locals := 4000 } : Room) D T g [.ref lo, .int (nI i), .int (nI k), .ref ou] [(lo, .inr (2, [.ref ra, .ref d0, .ref b0, .ref t0, .ref r0])), (ra, .inl (T 2, 6, .inr (.inr (.inr (.inr (fun j => some (rd j))))))), (rd i, .inr (0, [.ref q0, .int (nI n)])), (q0, .inl (T 0, 440, .inl f)), (ou, .inl (T 4, 1, .inr (.inr (.inr (.inl oD)))))] sz (fun u : Unit => some (.int (nI 3))) (fun u : Unit => True) (fun u : Unit => [(lo, .inr (2, [.ref ra, .ref d0, .ref b0, .ref t0, .ref r0])), (ra, .inl (T 2, 6, .inr (.inr (.inr (.inr (fun j => some (rd j))))))), (rd i, .inr (0, [.ref q0, .int (nI n)])), (q0, .inl (T 0, 440, .inl f)), (ou, .inl (T 4, 1, .inr (.inr (.inr (.inl oD)))))]) 5 1106 := by
  refine va_MetW (hh := [(0, 10, 13, 13), (0, 10, 17, 15), (0, 10, 21, 75)]) (cc := cL_letterShare) (maxL := 5) (ret := (some .int)) (by decide) rfl ?_
  intro p e s m args below meth c s₁ B hml hv
  obtain ⟨rfl, ⟨hsz, hP, hK, hD0, hG⟩, hN⟩ := hv
  have hx := B.exec
  have hb := B.bytes
  have hr := B.returns
  have hts := atoms_spec (ws := wsL_letterShare) B.pre
  have hown : s.vm.findClass RL = some m.cls := findClass_of_methodNamed B.named
  have hlocks := B.notSynchronized
  have htab : c.exceptionTable.toList = tableOf [(0, 10, 13, 13), (0, 10, 17, 15), (0, 10, 21, 75)] := vx_table (x := yL_add) B (hts _ (List.mem_of_getElem? (i := 0) rfl))
  subst hsz
  have hD := hD0.self (sz := s.heap.size)
  generalize hAe : va_A [(lo, .inr (2, [.ref ra, .ref d0, .ref b0, .ref t0, .ref r0])), (ra, .inl (T 2, 6, .inr (.inr (.inr (.inr (fun j => some (rd j))))))), (rd i, .inr (0, [.ref q0, .int (nI n)])), (q0, .inl (T 0, 440, .inl f)), (ou, .inl (T 4, 1, .inr (.inr (.inr (.inl oD)))))] s.heap.size = A at hD hG ⊢
  have hA : ∀ q : Nat, s.heap.size ≤ q → A q := fun q h => by rw [← hAe]; exact Or.inr h
  have hS : va_S A s.heap s.heap [] := va_S.rf
  have hP : va_P D cls [(lo, .inr (2, [.ref ra, .ref d0, .ref b0, .ref t0, .ref r0])), (ra, .inl (T 2, 6, .inr (.inr (.inr (.inr (fun j => some (rd j))))))), (rd i, .inr (0, [.ref q0, .int (nI n)])), (q0, .inl (T 0, 440, .inl f)), (ou, .inl (T 4, 1, .inr (.inr (.inr (.inl oD)))))] s.heap := hP
  have hl := lv_entry ([.ref lo, .int (nI i), .int (nI k), .ref ou]) (n := 5) (Nat.le_of_ble_eq_true rfl)
  rw [lg_entry_eq]
  generalize (lg_sl ([.ref lo, .int (nI i), .int (nI k), .ref ou]) ++ List.replicate (5 - (lg_sl ([.ref lo, .int (nI i), .int (nI k), .ref ou])).length) Slot.unset).toArray = ls at hl ⊢
  have hl : lv_has ls 5 [(0, .ref lo), (1, .int (nI i)), (2, .int (nI k)), (3, .ref ou)] := hl
  refine lv_aload_n hx hb dL_letterShare_0 rfl (lv_at hl 3 rfl) ?_
  refine lv_iconst (v := (nI 0)) hx hb dL_letterShare_1 (by decide +kernel) ?_
  refine lv_aload_n hx hb dL_letterShare_2 rfl (lv_at hl 0 rfl) ?_
  refine lv_iload_n hx hb dL_letterShare_3 rfl (lv_at hl 1 rfl) ?_
  refine lv_iload_n hx hb dL_letterShare_4 rfl (lv_at hl 2 rfl) ?_
  refine tc_V (hpc := 21) (As := [.int (nI i), .int (nI k)]) (rest := [.int (nI 0), .ref ou]) (wc := [(lo, .inr (2, [.ref ra, .ref d0, .ref b0, .ref t0, .ref r0])), (ra, .inl (T 2, 6, .inr (.inr (.inr (.inr (fun j => some (rd j))))))), (rd i, .inr (0, [.ref q0, .int (nI n)])), (q0, .inl (T 0, 440, .inl f))]) (wr := [(ou, .inl (T 4, 1, .inr (.inr (.inr (.inl oD)))))]) ⟨hx, hb, hml, hown, hts⟩ (c_letterShare_x3 l D T g s.heap.size (hl9) lo ra d0 b0 t0 r0 rd i q0 f n (hi) k (hk) (hn)) (cwV 2 hts gL_letterShare_X5_letterShare rfl rfl rfl (by decide +kernel) ⟨Nat.le_of_ble_eq_true rfl, Nat.le_of_ble_eq_true rfl⟩) (va_recv hK hP (ci := 2) (q0 := 0) rfl rfl) hP hD hK hG hS hA [0, 1, 2, 3] [4] rfl (by decide) rfl (by decide) (by decide) ⟨Nat.le_of_ble_eq_true rfl, Nat.le_of_ble_eq_true rfl⟩ rfl hl.1 (Nat.le_of_ble_eq_true rfl) dL_letterShare_5 rfl (fun H1 locs1 q9 ce h1 h2 h3 k9 => vx_catch (name := "java/lang/ArithmeticException") hown [⟨0, 10, 13, 13⟩, ⟨0, 10, 17, 15⟩] ⟨0, 10, 21, 75⟩ [] (htab.trans rfl) (List.forall_mem_cons.mpr ⟨Or.inr ⟨by decide, "java/lang/IndexOutOfBoundsException", (hts _ (List.mem_of_getElem? (i := 1) rfl)), hN.1 _ (List.mem_of_getElem? (i := 6) rfl)⟩, (List.forall_mem_cons.mpr ⟨Or.inr ⟨by decide, "java/lang/IllegalArgumentException", (hts _ (List.mem_of_getElem? (i := 2) rfl)), hN.1 _ (List.mem_of_getElem? (i := 7) rfl)⟩, (fun _ h => absurd h List.not_mem_nil)⟩)⟩) (by decide) (by decide) (hts _ (List.mem_of_getElem? (i := 3) rfl)) (va_Yc.word (hN.2 _ (List.mem_of_getElem? (i := 4) rfl))) h1 h2 h3 k9) (fun u q9 H locs hq1 hP hD hS => ?_)
  refine W.widen (k := 1) (n := 6) (Nat.le_of_ble_eq_true rfl) (Nat.le_of_ble_eq_true rfl) ?_
  have hP : va_P D cls [(ou, .inl (T 4, 1, .inr (.inr (.inr (.inl oD))))), (lo, .inr (2, [.ref ra, .ref d0, .ref b0, .ref t0, .ref r0])), (ra, .inl (T 2, 6, .inr (.inr (.inr (.inr (fun j => some (rd j))))))), (rd i, .inr (0, [.ref q0, .int (nI n)])), (q0, .inl (T 0, 440, .inl f))] H := hP
  have hD : va_D A [(ou, .inl (T 4, 1, .inr (.inr (.inr (.inl oD))))), (lo, .inr (2, [.ref ra, .ref d0, .ref b0, .ref t0, .ref r0])), (ra, .inl (T 2, 6, .inr (.inr (.inr (.inr (fun j => some (rd j))))))), (rd i, .inr (0, [.ref q0, .int (nI n)])), (q0, .inl (T 0, 440, .inl f))] := hD
  refine lv_astore (lv' := [(4, .ref q9), (0, .ref lo), (1, .int (nI i)), (2, .int (nI k)), (3, .ref ou)]) hx hb dL_letterShare_21 hl (by decide) rfl (fun ls hl => ?_)
  refine lv_iconst (v := (nI 3)) hx hb dL_letterShare_23 (by decide +kernel) ?_
  have hP9 := hP.sub (ws' := [(lo, .inr (2, [.ref ra, .ref d0, .ref b0, .ref t0, .ref r0])), (ra, .inl (T 2, 6, .inr (.inr (.inr (.inr (fun j => some (rd j))))))), (rd i, .inr (0, [.ref q0, .int (nI n)])), (q0, .inl (T 0, 440, .inl f)), (ou, .inl (T 4, 1, .inr (.inr (.inr (.inl oD)))))]) [1, 2, 3, 4, 0] rfl
  have hD9 := hD.sub (ws' := [(lo, .inr (2, [.ref ra, .ref d0, .ref b0, .ref t0, .ref r0])), (ra, .inl (T 2, 6, .inr (.inr (.inr (.inr (fun j => some (rd j))))))), (rd i, .inr (0, [.ref q0, .int (nI n)])), (q0, .inl (T 0, 440, .inl f)), (ou, .inl (T 4, 1, .inr (.inr (.inr (.inl oD)))))]) [1, 2, 3, 4, 0] (by decide) rfl
  refine W.widen (k := 5) (n := 1106) (by omega) (by omega) ?_
  exact W.iret (v := (nI 3)) hx hb hr (fun t ht hW => ⟨⟨(), rfl, trivial, (by rw [ht]; exact hP9), va_K.moved hW.alike hK, hD9⟩, hS.F ht⟩) hS.2.2 dL_letterShare_24
set_option maxHeartbeats 4000000 in
set_option maxRecDepth 100000 in
theorem h_growth_x1 (l : Launch) (D : va_G) (T : Nat → ClassId) (g : Nat → Nat) (sz : Nat) (hl9 : l.stackTraces = false) (lo : Nat) (ra : Nat) (d0 : Nat) (b0 : Nat) (t0 : Nat) (r0 : Nat) (rd : Nat → Nat) (i : Int32) (hi : i < 0 ∨ ¬ i < nI 6) (x0 : Int32) (ou : Nat) (oD : Nat → UInt64) : MUN l yL_growth wsL_growth ({ frames := 80, cells := 5, slots := 1106, locals := 4000 } : Room) D T g [.ref lo, .int i, .int x0, .ref ou] [(lo, .inr (2, [.ref ra, .ref d0, .ref b0, .ref t0, .ref r0])), (ra, .inl (T 2, 6, .inr (.inr (.inr (.inr (fun j => some (rd j))))))), (ou, .inl (T 4, 1, .inr (.inr (.inr (.inl oD)))))] sz (fun u : Unit => some (.int (nI 1))) (fun u : Unit => True) (fun u : Unit => [(lo, .inr (2, [.ref ra, .ref d0, .ref b0, .ref t0, .ref r0])), (ra, .inl (T 2, 6, .inr (.inr (.inr (.inr (fun j => some (rd j))))))), (ou, .inl (T 4, 1, .inr (.inr (.inr (.inl oD)))))]) 5 1106 := by
  refine va_MetW (hh := [(0, 9, 12, 13), (0, 9, 16, 15), (0, 9, 20, 75)]) (cc := cL_growth) (maxL := 5) (ret := (some .int)) (by decide) rfl ?_
  intro p e s m args below meth c s₁ B hml hv
  obtain ⟨rfl, ⟨hsz, hP, hK, hD0, hG⟩, hN⟩ := hv
  have hx := B.exec
  have hb := B.bytes
  have hr := B.returns
  have hts := atoms_spec (ws := wsL_growth) B.pre
  have hown : s.vm.findClass RL = some m.cls := findClass_of_methodNamed B.named
  have hlocks := B.notSynchronized
  have htab : c.exceptionTable.toList = tableOf [(0, 9, 12, 13), (0, 9, 16, 15), (0, 9, 20, 75)] := vx_table (x := yL_add) B (hts _ (List.mem_of_getElem? (i := 0) rfl))
  subst hsz
  have hD := hD0.self (sz := s.heap.size)
  generalize hAe : va_A [(lo, .inr (2, [.ref ra, .ref d0, .ref b0, .ref t0, .ref r0])), (ra, .inl (T 2, 6, .inr (.inr (.inr (.inr (fun j => some (rd j))))))), (ou, .inl (T 4, 1, .inr (.inr (.inr (.inl oD)))))] s.heap.size = A at hD hG ⊢
  have hA : ∀ q : Nat, s.heap.size ≤ q → A q := fun q h => by rw [← hAe]; exact Or.inr h
  have hS : va_S A s.heap s.heap [] := va_S.rf
  have hP : va_P D cls [(lo, .inr (2, [.ref ra, .ref d0, .ref b0, .ref t0, .ref r0])), (ra, .inl (T 2, 6, .inr (.inr (.inr (.inr (fun j => some (rd j))))))), (ou, .inl (T 4, 1, .inr (.inr (.inr (.inl oD)))))] s.heap := hP
  have hl := lv_entry ([.ref lo, .int i, .int x0, .ref ou]) (n := 5) (Nat.le_of_ble_eq_true rfl)
  rw [lg_entry_eq]
  generalize (lg_sl ([.ref lo, .int i, .int x0, .ref ou]) ++ List.replicate (5 - (lg_sl ([.ref lo, .int i, .int x0, .ref ou])).length) Slot.unset).toArray = ls at hl ⊢
  have hl : lv_has ls 5 [(0, .ref lo), (1, .int i), (2, .int x0), (3, .ref ou)] := hl
  refine lv_aload_n hx hb dL_growth_0 rfl (lv_at hl 3 rfl) ?_
  refine lv_iconst (v := (nI 0)) hx hb dL_growth_1 (by decide +kernel) ?_
  refine lv_aload_n hx hb dL_growth_2 rfl (lv_at hl 0 rfl) ?_
  refine lv_iload_n hx hb dL_growth_3 rfl (lv_at hl 1 rfl) ?_
  refine lv_iload_n hx hb dL_growth_4 rfl (lv_at hl 2 rfl) ?_
  refine tc_V (hpc := 12) (As := [.int i, .int x0]) (rest := [.int (nI 0), .ref ou]) (wc := [(lo, .inr (2, [.ref ra, .ref d0, .ref b0, .ref t0, .ref r0])), (ra, .inl (T 2, 6, .inr (.inr (.inr (.inr (fun j => some (rd j)))))))]) (wr := [(ou, .inl (T 4, 1, .inr (.inr (.inr (.inl oD)))))]) ⟨hx, hb, hml, hown, hts⟩ (c_growth_x1 l D T g s.heap.size (hl9) lo ra d0 b0 t0 r0 rd i (hi) x0) (cwV 2 hts gL_growth_X5_growth rfl rfl rfl (by decide +kernel) ⟨Nat.le_of_ble_eq_true rfl, Nat.le_of_ble_eq_true rfl⟩) (va_recv hK hP (ci := 2) (q0 := 0) rfl rfl) hP hD hK hG hS hA [0, 1] [2] rfl (by decide) rfl (by decide) (by decide) ⟨Nat.le_of_ble_eq_true rfl, Nat.le_of_ble_eq_true rfl⟩ rfl hl.1 (Nat.le_of_ble_eq_true rfl) dL_growth_5 rfl (fun H1 locs1 q9 ce h1 h2 h3 k9 => vx_catch (name := "java/lang/IndexOutOfBoundsException") hown [] ⟨0, 9, 12, 13⟩ [⟨0, 9, 16, 15⟩, ⟨0, 9, 20, 75⟩] (htab.trans rfl) (fun _ h => absurd h List.not_mem_nil) (by decide) (by decide) (hts _ (List.mem_of_getElem? (i := 1) rfl)) (va_Yc.word (hN.2 _ (List.mem_of_getElem? (i := 0) rfl))) h1 h2 h3 k9) (fun u q9 H locs hq1 hP hD hS => ?_)
  refine W.widen (k := 1) (n := 6) (Nat.le_of_ble_eq_true rfl) (Nat.le_of_ble_eq_true rfl) ?_
  have hP : va_P D cls [(ou, .inl (T 4, 1, .inr (.inr (.inr (.inl oD))))), (lo, .inr (2, [.ref ra, .ref d0, .ref b0, .ref t0, .ref r0])), (ra, .inl (T 2, 6, .inr (.inr (.inr (.inr (fun j => some (rd j)))))))] H := hP
  have hD : va_D A [(ou, .inl (T 4, 1, .inr (.inr (.inr (.inl oD))))), (lo, .inr (2, [.ref ra, .ref d0, .ref b0, .ref t0, .ref r0])), (ra, .inl (T 2, 6, .inr (.inr (.inr (.inr (fun j => some (rd j)))))))] := hD
  refine lv_astore (lv' := [(4, .ref q9), (0, .ref lo), (1, .int i), (2, .int x0), (3, .ref ou)]) hx hb dL_growth_12 hl (by decide) rfl (fun ls hl => ?_)
  refine lv_iconst (v := (nI 1)) hx hb dL_growth_14 (by decide +kernel) ?_
  have hP9 := hP.sub (ws' := [(lo, .inr (2, [.ref ra, .ref d0, .ref b0, .ref t0, .ref r0])), (ra, .inl (T 2, 6, .inr (.inr (.inr (.inr (fun j => some (rd j))))))), (ou, .inl (T 4, 1, .inr (.inr (.inr (.inl oD)))))]) [1, 2, 0] rfl
  have hD9 := hD.sub (ws' := [(lo, .inr (2, [.ref ra, .ref d0, .ref b0, .ref t0, .ref r0])), (ra, .inl (T 2, 6, .inr (.inr (.inr (.inr (fun j => some (rd j))))))), (ou, .inl (T 4, 1, .inr (.inr (.inr (.inl oD)))))]) [1, 2, 0] (by decide) rfl
  refine W.widen (k := 5) (n := 1106) (by omega) (by omega) ?_
  exact W.iret (v := (nI 1)) hx hb hr (fun t ht hW => ⟨⟨(), rfl, trivial, (by rw [ht]; exact hP9), va_K.moved hW.alike hK, hD9⟩, hS.F ht⟩) hS.2.2 dL_growth_15
set_option maxHeartbeats 4000000 in
set_option maxRecDepth 100000 in
theorem h_growth_x2 (l : Launch) (D : va_G) (T : Nat → ClassId) (g : Nat → Nat) (sz : Nat) (hl9 : l.stackTraces = false) (lo : Nat) (ra : Nat) (d0 : Nat) (b0 : Nat) (t0 : Nat) (r0 : Nat) (rd : Nat → Nat) (i : Nat) (q0 : Nat) (f : Nat → Int32) (n : Nat) (hi : i < 6) (k : Int32) (hk : k < 0 ∨ ¬ k < nI 3) (ou : Nat) (oD : Nat → UInt64) : MUN l yL_growth wsL_growth ({ frames := 80, cells := 5, slots := 1106, locals := 4000 } : Room) D T g [.ref lo, .int (nI i), .int k, .ref ou] [(lo, .inr (2, [.ref ra, .ref d0, .ref b0, .ref t0, .ref r0])), (ra, .inl (T 2, 6, .inr (.inr (.inr (.inr (fun j => some (rd j))))))), (rd i, .inr (0, [.ref q0, .int (nI n)])), (q0, .inl (T 0, 440, .inl f)), (ou, .inl (T 4, 1, .inr (.inr (.inr (.inl oD)))))] sz (fun u : Unit => some (.int (nI 2))) (fun u : Unit => True) (fun u : Unit => [(lo, .inr (2, [.ref ra, .ref d0, .ref b0, .ref t0, .ref r0])), (ra, .inl (T 2, 6, .inr (.inr (.inr (.inr (fun j => some (rd j))))))), (rd i, .inr (0, [.ref q0, .int (nI n)])), (q0, .inl (T 0, 440, .inl f)), (ou, .inl (T 4, 1, .inr (.inr (.inr (.inl oD)))))]) 5 1106 := by
  refine va_MetW (hh := [(0, 9, 12, 13), (0, 9, 16, 15), (0, 9, 20, 75)]) (cc := cL_growth) (maxL := 5) (ret := (some .int)) (by decide) rfl ?_
  intro p e s m args below meth c s₁ B hml hv
  obtain ⟨rfl, ⟨hsz, hP, hK, hD0, hG⟩, hN⟩ := hv
  have hx := B.exec
  have hb := B.bytes
  have hr := B.returns
  have hts := atoms_spec (ws := wsL_growth) B.pre
  have hown : s.vm.findClass RL = some m.cls := findClass_of_methodNamed B.named
  have hlocks := B.notSynchronized
  have htab : c.exceptionTable.toList = tableOf [(0, 9, 12, 13), (0, 9, 16, 15), (0, 9, 20, 75)] := vx_table (x := yL_add) B (hts _ (List.mem_of_getElem? (i := 0) rfl))
  subst hsz
  have hD := hD0.self (sz := s.heap.size)
  generalize hAe : va_A [(lo, .inr (2, [.ref ra, .ref d0, .ref b0, .ref t0, .ref r0])), (ra, .inl (T 2, 6, .inr (.inr (.inr (.inr (fun j => some (rd j))))))), (rd i, .inr (0, [.ref q0, .int (nI n)])), (q0, .inl (T 0, 440, .inl f)), (ou, .inl (T 4, 1, .inr (.inr (.inr (.inl oD)))))] s.heap.size = A at hD hG ⊢
  have hA : ∀ q : Nat, s.heap.size ≤ q → A q := fun q h => by rw [← hAe]; exact Or.inr h
  have hS : va_S A s.heap s.heap [] := va_S.rf
  have hP : va_P D cls [(lo, .inr (2, [.ref ra, .ref d0, .ref b0, .ref t0, .ref r0])), (ra, .inl (T 2, 6, .inr (.inr (.inr (.inr (fun j => some (rd j))))))), (rd i, .inr (0, [.ref q0, .int (nI n)])), (q0, .inl (T 0, 440, .inl f)), (ou, .inl (T 4, 1, .inr (.inr (.inr (.inl oD)))))] s.heap := hP
  have hl := lv_entry ([.ref lo, .int (nI i), .int k, .ref ou]) (n := 5) (Nat.le_of_ble_eq_true rfl)
  rw [lg_entry_eq]
  generalize (lg_sl ([.ref lo, .int (nI i), .int k, .ref ou]) ++ List.replicate (5 - (lg_sl ([.ref lo, .int (nI i), .int k, .ref ou])).length) Slot.unset).toArray = ls at hl ⊢
  have hl : lv_has ls 5 [(0, .ref lo), (1, .int (nI i)), (2, .int k), (3, .ref ou)] := hl
  refine lv_aload_n hx hb dL_growth_0 rfl (lv_at hl 3 rfl) ?_
  refine lv_iconst (v := (nI 0)) hx hb dL_growth_1 (by decide +kernel) ?_
  refine lv_aload_n hx hb dL_growth_2 rfl (lv_at hl 0 rfl) ?_
  refine lv_iload_n hx hb dL_growth_3 rfl (lv_at hl 1 rfl) ?_
  refine lv_iload_n hx hb dL_growth_4 rfl (lv_at hl 2 rfl) ?_
  refine tc_V (hpc := 16) (As := [.int (nI i), .int k]) (rest := [.int (nI 0), .ref ou]) (wc := [(lo, .inr (2, [.ref ra, .ref d0, .ref b0, .ref t0, .ref r0])), (ra, .inl (T 2, 6, .inr (.inr (.inr (.inr (fun j => some (rd j))))))), (rd i, .inr (0, [.ref q0, .int (nI n)])), (q0, .inl (T 0, 440, .inl f))]) (wr := [(ou, .inl (T 4, 1, .inr (.inr (.inr (.inl oD)))))]) ⟨hx, hb, hml, hown, hts⟩ (c_growth_x2 l D T g s.heap.size (hl9) lo ra d0 b0 t0 r0 rd i q0 f n (hi) k (hk)) (cwV 2 hts gL_growth_X5_growth rfl rfl rfl (by decide +kernel) ⟨Nat.le_of_ble_eq_true rfl, Nat.le_of_ble_eq_true rfl⟩) (va_recv hK hP (ci := 2) (q0 := 0) rfl rfl) hP hD hK hG hS hA [0, 1, 2, 3] [4] rfl (by decide) rfl (by decide) (by decide) ⟨Nat.le_of_ble_eq_true rfl, Nat.le_of_ble_eq_true rfl⟩ rfl hl.1 (Nat.le_of_ble_eq_true rfl) dL_growth_5 rfl (fun H1 locs1 q9 ce h1 h2 h3 k9 => vx_catch (name := "java/lang/IllegalArgumentException") hown [⟨0, 9, 12, 13⟩] ⟨0, 9, 16, 15⟩ [⟨0, 9, 20, 75⟩] (htab.trans rfl) (List.forall_mem_cons.mpr ⟨Or.inr ⟨by decide, "java/lang/IndexOutOfBoundsException", (hts _ (List.mem_of_getElem? (i := 1) rfl)), hN.1 _ (List.mem_of_getElem? (i := 0) rfl)⟩, (fun _ h => absurd h List.not_mem_nil)⟩) (by decide) (by decide) (hts _ (List.mem_of_getElem? (i := 2) rfl)) (va_Yc.word (hN.2 _ (List.mem_of_getElem? (i := 1) rfl))) h1 h2 h3 k9) (fun u q9 H locs hq1 hP hD hS => ?_)
  refine W.widen (k := 1) (n := 6) (Nat.le_of_ble_eq_true rfl) (Nat.le_of_ble_eq_true rfl) ?_
  have hP : va_P D cls [(ou, .inl (T 4, 1, .inr (.inr (.inr (.inl oD))))), (lo, .inr (2, [.ref ra, .ref d0, .ref b0, .ref t0, .ref r0])), (ra, .inl (T 2, 6, .inr (.inr (.inr (.inr (fun j => some (rd j))))))), (rd i, .inr (0, [.ref q0, .int (nI n)])), (q0, .inl (T 0, 440, .inl f))] H := hP
  have hD : va_D A [(ou, .inl (T 4, 1, .inr (.inr (.inr (.inl oD))))), (lo, .inr (2, [.ref ra, .ref d0, .ref b0, .ref t0, .ref r0])), (ra, .inl (T 2, 6, .inr (.inr (.inr (.inr (fun j => some (rd j))))))), (rd i, .inr (0, [.ref q0, .int (nI n)])), (q0, .inl (T 0, 440, .inl f))] := hD
  refine lv_astore (lv' := [(4, .ref q9), (0, .ref lo), (1, .int (nI i)), (2, .int k), (3, .ref ou)]) hx hb dL_growth_16 hl (by decide) rfl (fun ls hl => ?_)
  refine lv_iconst (v := (nI 2)) hx hb dL_growth_18 (by decide +kernel) ?_
  have hP9 := hP.sub (ws' := [(lo, .inr (2, [.ref ra, .ref d0, .ref b0, .ref t0, .ref r0])), (ra, .inl (T 2, 6, .inr (.inr (.inr (.inr (fun j => some (rd j))))))), (rd i, .inr (0, [.ref q0, .int (nI n)])), (q0, .inl (T 0, 440, .inl f)), (ou, .inl (T 4, 1, .inr (.inr (.inr (.inl oD)))))]) [1, 2, 3, 4, 0] rfl
  have hD9 := hD.sub (ws' := [(lo, .inr (2, [.ref ra, .ref d0, .ref b0, .ref t0, .ref r0])), (ra, .inl (T 2, 6, .inr (.inr (.inr (.inr (fun j => some (rd j))))))), (rd i, .inr (0, [.ref q0, .int (nI n)])), (q0, .inl (T 0, 440, .inl f)), (ou, .inl (T 4, 1, .inr (.inr (.inr (.inl oD)))))]) [1, 2, 3, 4, 0] (by decide) rfl
  refine W.widen (k := 5) (n := 1106) (by omega) (by omega) ?_
  exact W.iret (v := (nI 2)) hx hb hr (fun t ht hW => ⟨⟨(), rfl, trivial, (by rw [ht]; exact hP9), va_K.moved hW.alike hK, hD9⟩, hS.F ht⟩) hS.2.2 dL_growth_19
set_option maxHeartbeats 4000000 in
set_option maxRecDepth 100000 in
theorem h_growth_x3 (l : Launch) (D : va_G) (T : Nat → ClassId) (g : Nat → Nat) (sz : Nat) (hl9 : l.stackTraces = false) (lo : Nat) (ra : Nat) (d0 : Nat) (b0 : Nat) (t0 : Nat) (r0 : Nat) (rd : Nat → Nat) (i : Nat) (q0 : Nat) (f : Nat → Int32) (n : Nat) (hi : i < 6) (k : Nat) (hk : k < 3) (hn : n = 0) (ou : Nat) (oD : Nat → UInt64) : MUN l yL_growth wsL_growth ({ frames := 80, cells := 5, slots := 1106, locals := 4000 } : Room) D T g [.ref lo, .int (nI i), .int (nI k), .ref ou] [(lo, .inr (2, [.ref ra, .ref d0, .ref b0, .ref t0, .ref r0])), (ra, .inl (T 2, 6, .inr (.inr (.inr (.inr (fun j => some (rd j))))))), (rd i, .inr (0, [.ref q0, .int (nI n)])), (q0, .inl (T 0, 440, .inl f)), (ou, .inl (T 4, 1, .inr (.inr (.inr (.inl oD)))))] sz (fun u : Unit => some (.int (nI 3))) (fun u : Unit => True) (fun u : Unit => [(lo, .inr (2, [.ref ra, .ref d0, .ref b0, .ref t0, .ref r0])), (ra, .inl (T 2, 6, .inr (.inr (.inr (.inr (fun j => some (rd j))))))), (rd i, .inr (0, [.ref q0, .int (nI n)])), (q0, .inl (T 0, 440, .inl f)), (ou, .inl (T 4, 1, .inr (.inr (.inr (.inl oD)))))]) 5 1106 := by
  refine va_MetW (hh := [(0, 9, 12, 13), (0, 9, 16, 15), (0, 9, 20, 75)]) (cc := cL_growth) (maxL := 5) (ret := (some .int)) (by decide) rfl ?_
  intro p e s m args below meth c s₁ B hml hv
  obtain ⟨rfl, ⟨hsz, hP, hK, hD0, hG⟩, hN⟩ := hv
  have hx := B.exec
  have hb := B.bytes
  have hr := B.returns
  have hts := atoms_spec (ws := wsL_growth) B.pre
  have hown : s.vm.findClass RL = some m.cls := findClass_of_methodNamed B.named
  have hlocks := B.notSynchronized
  have htab : c.exceptionTable.toList = tableOf [(0, 9, 12, 13), (0, 9, 16, 15), (0, 9, 20, 75)] := vx_table (x := yL_add) B (hts _ (List.mem_of_getElem? (i := 0) rfl))
  subst hsz
  have hD := hD0.self (sz := s.heap.size)
  generalize hAe : va_A [(lo, .inr (2, [.ref ra, .ref d0, .ref b0, .ref t0, .ref r0])), (ra, .inl (T 2, 6, .inr (.inr (.inr (.inr (fun j => some (rd j))))))), (rd i, .inr (0, [.ref q0, .int (nI n)])), (q0, .inl (T 0, 440, .inl f)), (ou, .inl (T 4, 1, .inr (.inr (.inr (.inl oD)))))] s.heap.size = A at hD hG ⊢
  have hA : ∀ q : Nat, s.heap.size ≤ q → A q := fun q h => by rw [← hAe]; exact Or.inr h
  have hS : va_S A s.heap s.heap [] := va_S.rf
  have hP : va_P D cls [(lo, .inr (2, [.ref ra, .ref d0, .ref b0, .ref t0, .ref r0])), (ra, .inl (T 2, 6, .inr (.inr (.inr (.inr (fun j => some (rd j))))))), (rd i, .inr (0, [.ref q0, .int (nI n)])), (q0, .inl (T 0, 440, .inl f)), (ou, .inl (T 4, 1, .inr (.inr (.inr (.inl oD)))))] s.heap := hP
  have hl := lv_entry ([.ref lo, .int (nI i), .int (nI k), .ref ou]) (n := 5) (Nat.le_of_ble_eq_true rfl)
  rw [lg_entry_eq]
  generalize (lg_sl ([.ref lo, .int (nI i), .int (nI k), .ref ou]) ++ List.replicate (5 - (lg_sl ([.ref lo, .int (nI i), .int (nI k), .ref ou])).length) Slot.unset).toArray = ls at hl ⊢
  have hl : lv_has ls 5 [(0, .ref lo), (1, .int (nI i)), (2, .int (nI k)), (3, .ref ou)] := hl
  refine lv_aload_n hx hb dL_growth_0 rfl (lv_at hl 3 rfl) ?_
  refine lv_iconst (v := (nI 0)) hx hb dL_growth_1 (by decide +kernel) ?_
  refine lv_aload_n hx hb dL_growth_2 rfl (lv_at hl 0 rfl) ?_
  refine lv_iload_n hx hb dL_growth_3 rfl (lv_at hl 1 rfl) ?_
  refine lv_iload_n hx hb dL_growth_4 rfl (lv_at hl 2 rfl) ?_
  refine tc_V (hpc := 20) (As := [.int (nI i), .int (nI k)]) (rest := [.int (nI 0), .ref ou]) (wc := [(lo, .inr (2, [.ref ra, .ref d0, .ref b0, .ref t0, .ref r0])), (ra, .inl (T 2, 6, .inr (.inr (.inr (.inr (fun j => some (rd j))))))), (rd i, .inr (0, [.ref q0, .int (nI n)])), (q0, .inl (T 0, 440, .inl f))]) (wr := [(ou, .inl (T 4, 1, .inr (.inr (.inr (.inl oD)))))]) ⟨hx, hb, hml, hown, hts⟩ (c_growth_x3 l D T g s.heap.size (hl9) lo ra d0 b0 t0 r0 rd i q0 f n (hi) k (hk) (hn)) (cwV 2 hts gL_growth_X5_growth rfl rfl rfl (by decide +kernel) ⟨Nat.le_of_ble_eq_true rfl, Nat.le_of_ble_eq_true rfl⟩) (va_recv hK hP (ci := 2) (q0 := 0) rfl rfl) hP hD hK hG hS hA [0, 1, 2, 3] [4] rfl (by decide) rfl (by decide) (by decide) ⟨Nat.le_of_ble_eq_true rfl, Nat.le_of_ble_eq_true rfl⟩ rfl hl.1 (Nat.le_of_ble_eq_true rfl) dL_growth_5 rfl (fun H1 locs1 q9 ce h1 h2 h3 k9 => vx_catch (name := "java/lang/ArithmeticException") hown [⟨0, 9, 12, 13⟩, ⟨0, 9, 16, 15⟩] ⟨0, 9, 20, 75⟩ [] (htab.trans rfl) (List.forall_mem_cons.mpr ⟨Or.inr ⟨by decide, "java/lang/IndexOutOfBoundsException", (hts _ (List.mem_of_getElem? (i := 1) rfl)), hN.1 _ (List.mem_of_getElem? (i := 6) rfl)⟩, (List.forall_mem_cons.mpr ⟨Or.inr ⟨by decide, "java/lang/IllegalArgumentException", (hts _ (List.mem_of_getElem? (i := 2) rfl)), hN.1 _ (List.mem_of_getElem? (i := 7) rfl)⟩, (fun _ h => absurd h List.not_mem_nil)⟩)⟩) (by decide) (by decide) (hts _ (List.mem_of_getElem? (i := 3) rfl)) (va_Yc.word (hN.2 _ (List.mem_of_getElem? (i := 4) rfl))) h1 h2 h3 k9) (fun u q9 H locs hq1 hP hD hS => ?_)
  refine W.widen (k := 1) (n := 6) (Nat.le_of_ble_eq_true rfl) (Nat.le_of_ble_eq_true rfl) ?_
  have hP : va_P D cls [(ou, .inl (T 4, 1, .inr (.inr (.inr (.inl oD))))), (lo, .inr (2, [.ref ra, .ref d0, .ref b0, .ref t0, .ref r0])), (ra, .inl (T 2, 6, .inr (.inr (.inr (.inr (fun j => some (rd j))))))), (rd i, .inr (0, [.ref q0, .int (nI n)])), (q0, .inl (T 0, 440, .inl f))] H := hP
  have hD : va_D A [(ou, .inl (T 4, 1, .inr (.inr (.inr (.inl oD))))), (lo, .inr (2, [.ref ra, .ref d0, .ref b0, .ref t0, .ref r0])), (ra, .inl (T 2, 6, .inr (.inr (.inr (.inr (fun j => some (rd j))))))), (rd i, .inr (0, [.ref q0, .int (nI n)])), (q0, .inl (T 0, 440, .inl f))] := hD
  refine lv_astore (lv' := [(4, .ref q9), (0, .ref lo), (1, .int (nI i)), (2, .int (nI k)), (3, .ref ou)]) hx hb dL_growth_20 hl (by decide) rfl (fun ls hl => ?_)
  refine lv_iconst (v := (nI 3)) hx hb dL_growth_22 (by decide +kernel) ?_
  have hP9 := hP.sub (ws' := [(lo, .inr (2, [.ref ra, .ref d0, .ref b0, .ref t0, .ref r0])), (ra, .inl (T 2, 6, .inr (.inr (.inr (.inr (fun j => some (rd j))))))), (rd i, .inr (0, [.ref q0, .int (nI n)])), (q0, .inl (T 0, 440, .inl f)), (ou, .inl (T 4, 1, .inr (.inr (.inr (.inl oD)))))]) [1, 2, 3, 4, 0] rfl
  have hD9 := hD.sub (ws' := [(lo, .inr (2, [.ref ra, .ref d0, .ref b0, .ref t0, .ref r0])), (ra, .inl (T 2, 6, .inr (.inr (.inr (.inr (fun j => some (rd j))))))), (rd i, .inr (0, [.ref q0, .int (nI n)])), (q0, .inl (T 0, 440, .inl f)), (ou, .inl (T 4, 1, .inr (.inr (.inr (.inl oD)))))]) [1, 2, 3, 4, 0] (by decide) rfl
  refine W.widen (k := 5) (n := 1106) (by omega) (by omega) ?_
  exact W.iret (v := (nI 3)) hx hb hr (fun t ht hW => ⟨⟨(), rfl, trivial, (by rw [ht]; exact hP9), va_K.moved hW.alike hK, hD9⟩, hS.F ht⟩) hS.2.2 dL_growth_23
set_option maxHeartbeats 4000000 in
set_option maxRecDepth 100000 in
theorem h_letterShare (l : Launch) (D : va_G) (T : Nat → ClassId) (g : Nat → Nat) (sz : Nat) (lo : Nat) (ra : Nat) (d0 : Nat) (b0 : Nat) (t0 : Nat) (r0 : Nat) (rd : Nat → Nat) (i : Nat) (q0 : Nat) (f : Nat → Int32) (n : Nat) (b : Nat → Nat) (hb9 : RB f n b) (hi : i < 6) (k : Nat) (hk : k < 3) (hn : 0 < n ∧ n ≤ 320) (ou : Nat) (oD : Nat → UInt64) : MUN l yL_letterShare wsL_letterShare ({ frames := 80, cells := 5, slots := 1106, locals := 4000 } : Room) D T g [.ref lo, .int (nI i), .int (nI k), .ref ou] [(lo, .inr (2, [.ref ra, .ref d0, .ref b0, .ref t0, .ref r0])), (ra, .inl (T 2, 6, .inr (.inr (.inr (.inr (fun j => some (rd j))))))), (rd i, .inr (0, [.ref q0, .int (nI n)])), (q0, .inl (T 0, 440, .inl f)), (ou, .inl (T 4, 1, .inr (.inr (.inr (.inl oD)))))] sz (fun u : Unit => some (.int (nI 0))) (fun u : Unit => True) (fun u : Unit => [(lo, .inr (2, [.ref ra, .ref d0, .ref b0, .ref t0, .ref r0])), (ra, .inl (T 2, 6, .inr (.inr (.inr (.inr (fun j => some (rd j))))))), (rd i, .inr (0, [.ref q0, .int (nI n)])), (q0, .inl (T 0, 440, .inl f)), (ou, .inl (T 4, 1, .inr (.inr (.inr (.inl (vf_upd oD 0 (FP.f2d (FP.fdiv (FP.i2f (nI (ctN (ltB k b) n))) (FP.i2f (nI n))))))))))]) 5 1106 := by
  refine va_MetW (hh := [(0, 10, 13, 13), (0, 10, 17, 15), (0, 10, 21, 75)]) (cc := cL_letterShare) (maxL := 5) (ret := (some .int)) (by decide) rfl ?_
  intro p e s m args below meth c s₁ B hml hv
  obtain ⟨rfl, ⟨hsz, hP, hK, hD0, hG⟩, hN⟩ := hv
  have hx := B.exec
  have hb := B.bytes
  have hr := B.returns
  have hts := atoms_spec (ws := wsL_letterShare) B.pre
  have hown : s.vm.findClass RL = some m.cls := findClass_of_methodNamed B.named
  have hlocks := B.notSynchronized
  have htab : c.exceptionTable.toList = tableOf [(0, 10, 13, 13), (0, 10, 17, 15), (0, 10, 21, 75)] := vx_table (x := yL_add) B (hts _ (List.mem_of_getElem? (i := 0) rfl))
  subst hsz
  have hD := hD0.self (sz := s.heap.size)
  generalize hAe : va_A [(lo, .inr (2, [.ref ra, .ref d0, .ref b0, .ref t0, .ref r0])), (ra, .inl (T 2, 6, .inr (.inr (.inr (.inr (fun j => some (rd j))))))), (rd i, .inr (0, [.ref q0, .int (nI n)])), (q0, .inl (T 0, 440, .inl f)), (ou, .inl (T 4, 1, .inr (.inr (.inr (.inl oD)))))] s.heap.size = A at hD hG ⊢
  have hA : ∀ q : Nat, s.heap.size ≤ q → A q := fun q h => by rw [← hAe]; exact Or.inr h
  have hS : va_S A s.heap s.heap [] := va_S.rf
  have hP : va_P D cls [(lo, .inr (2, [.ref ra, .ref d0, .ref b0, .ref t0, .ref r0])), (ra, .inl (T 2, 6, .inr (.inr (.inr (.inr (fun j => some (rd j))))))), (rd i, .inr (0, [.ref q0, .int (nI n)])), (q0, .inl (T 0, 440, .inl f)), (ou, .inl (T 4, 1, .inr (.inr (.inr (.inl oD)))))] s.heap := hP
  have hl := lv_entry ([.ref lo, .int (nI i), .int (nI k), .ref ou]) (n := 5) (Nat.le_of_ble_eq_true rfl)
  rw [lg_entry_eq]
  generalize (lg_sl ([.ref lo, .int (nI i), .int (nI k), .ref ou]) ++ List.replicate (5 - (lg_sl ([.ref lo, .int (nI i), .int (nI k), .ref ou])).length) Slot.unset).toArray = ls at hl ⊢
  have hl : lv_has ls 5 [(0, .ref lo), (1, .int (nI i)), (2, .int (nI k)), (3, .ref ou)] := hl
  have hc9 := ctN_le (ltB k b) n
  refine lv_aload_n hx hb dL_letterShare_0 rfl (lv_at hl 3 rfl) ?_
  refine lv_iconst (v := (nI 0)) hx hb dL_letterShare_1 (by decide +kernel) ?_
  refine lv_aload_n hx hb dL_letterShare_2 rfl (lv_at hl 0 rfl) ?_
  refine lv_iload_n hx hb dL_letterShare_3 rfl (lv_at hl 1 rfl) ?_
  refine lv_iload_n hx hb dL_letterShare_4 rfl (lv_at hl 2 rfl) ?_
  refine ro_V (As := [.int (nI i), .int (nI k)]) (rest := [.int (nI 0), .ref ou]) (wc := [(lo, .inr (2, [.ref ra, .ref d0, .ref b0, .ref t0, .ref r0])), (ra, .inl (T 2, 6, .inr (.inr (.inr (.inr (fun j => some (rd j))))))), (rd i, .inr (0, [.ref q0, .int (nI n)])), (q0, .inl (T 0, 440, .inl f))]) (r := .float (FP.fdiv (FP.i2f (nI (ctN (ltB k b) n))) (FP.i2f (nI n)))) ⟨hx, hb, hml, hown, hts⟩ (c_letterShare l D T g lo ra d0 b0 t0 r0 rd i q0 f n b (hb9) (hi) k (hk) (hn)) (cwV 2 hts gL_letterShare_X5_letterShare rfl rfl rfl (by decide +kernel) ⟨Nat.le_of_ble_eq_true rfl, Nat.le_of_ble_eq_true rfl⟩) (va_recv hK hP (ci := 2) (q0 := 0) rfl rfl) hP hK hG hS [0, 1, 2, 3] rfl ⟨Nat.zero_le _, Nat.zero_le _⟩ rfl hl.1 (Nat.le_of_ble_eq_true rfl) dL_letterShare_5 rfl ?_
  refine lv_f2d hx hb dL_letterShare_8 ((sh_d (by omega) (by omega) hn.1).1) ?_
  refine va_dast hx hb hK hP hD hS 4 4 rfl rfl (vp_in_nI (by omega) (by omega)) dL_letterShare_9 (fun H locs hP hD hS => ?_)
  rw [nI_clamp (by omega)] at hP hD
  have hP : va_P D cls [(lo, .inr (2, [.ref ra, .ref d0, .ref b0, .ref t0, .ref r0])), (ra, .inl (T 2, 6, .inr (.inr (.inr (.inr (fun j => some (rd j))))))), (rd i, .inr (0, [.ref q0, .int (nI n)])), (q0, .inl (T 0, 440, .inl f)), (ou, .inl (T 4, 1, .inr (.inr (.inr (.inl (vf_upd oD 0 (FP.f2d (FP.fdiv (FP.i2f (nI (ctN (ltB k b) n))) (FP.i2f (nI n))))))))))] H := hP
  have hD : va_D A [(lo, .inr (2, [.ref ra, .ref d0, .ref b0, .ref t0, .ref r0])), (ra, .inl (T 2, 6, .inr (.inr (.inr (.inr (fun j => some (rd j))))))), (rd i, .inr (0, [.ref q0, .int (nI n)])), (q0, .inl (T 0, 440, .inl f)), (ou, .inl (T 4, 1, .inr (.inr (.inr (.inl (vf_upd oD 0 (FP.f2d (FP.fdiv (FP.i2f (nI (ctN (ltB k b) n))) (FP.i2f (nI n))))))))))] := hD
  refine lv_goto (tgt := 25) hx hb dL_letterShare_10 (by decide) ?_
  refine lv_iconst (v := (nI 0)) hx hb dL_letterShare_25 (by decide +kernel) ?_
  have hP9 := hP.sub (ws' := [(lo, .inr (2, [.ref ra, .ref d0, .ref b0, .ref t0, .ref r0])), (ra, .inl (T 2, 6, .inr (.inr (.inr (.inr (fun j => some (rd j))))))), (rd i, .inr (0, [.ref q0, .int (nI n)])), (q0, .inl (T 0, 440, .inl f)), (ou, .inl (T 4, 1, .inr (.inr (.inr (.inl (vf_upd oD 0 (FP.f2d (FP.fdiv (FP.i2f (nI (ctN (ltB k b) n))) (FP.i2f (nI n))))))))))]) [0, 1, 2, 3, 4] rfl
  have hD9 := hD.sub (ws' := [(lo, .inr (2, [.ref ra, .ref d0, .ref b0, .ref t0, .ref r0])), (ra, .inl (T 2, 6, .inr (.inr (.inr (.inr (fun j => some (rd j))))))), (rd i, .inr (0, [.ref q0, .int (nI n)])), (q0, .inl (T 0, 440, .inl f)), (ou, .inl (T 4, 1, .inr (.inr (.inr (.inl (vf_upd oD 0 (FP.f2d (FP.fdiv (FP.i2f (nI (ctN (ltB k b) n))) (FP.i2f (nI n))))))))))]) [0, 1, 2, 3, 4] (by decide) rfl
  refine W.widen (k := 5) (n := 1106) (by omega) (by omega) ?_
  exact W.iret (v := (nI 0)) hx hb hr (fun t ht hW => ⟨⟨(), rfl, trivial, (by rw [ht]; exact hP9), va_K.moved hW.alike hK, hD9⟩, hS.F ht⟩) hS.2.2 dL_letterShare_26
set_option maxHeartbeats 4000000 in
set_option maxRecDepth 100000 in
theorem h_growth (l : Launch) (D : va_G) (T : Nat → ClassId) (g : Nat → Nat) (sz : Nat) (lo : Nat) (ra : Nat) (d0 : Nat) (b0 : Nat) (t0 : Nat) (r0 : Nat) (rd : Nat → Nat) (i : Nat) (q0 : Nat) (f : Nat → Int32) (n : Nat) (hi : i < 6) (k : Nat) (hk : k < 3) (hn : 0 < n ∧ n ≤ 320) (ou : Nat) (oD : Nat → UInt64) : MUN l yL_growth wsL_growth ({ frames := 80, cells := 5, slots := 1106, locals := 4000 } : Room) D T g [.ref lo, .int (nI i), .int (nI k), .ref ou] [(lo, .inr (2, [.ref ra, .ref d0, .ref b0, .ref t0, .ref r0])), (ra, .inl (T 2, 6, .inr (.inr (.inr (.inr (fun j => some (rd j))))))), (rd i, .inr (0, [.ref q0, .int (nI n)])), (q0, .inl (T 0, 440, .inl f)), (ou, .inl (T 4, 1, .inr (.inr (.inr (.inl oD)))))] sz (fun u : Unit => some (.int (nI 0))) (fun u : Unit => True) (fun u : Unit => [(lo, .inr (2, [.ref ra, .ref d0, .ref b0, .ref t0, .ref r0])), (ra, .inl (T 2, 6, .inr (.inr (.inr (.inr (fun j => some (rd j))))))), (rd i, .inr (0, [.ref q0, .int (nI n)])), (q0, .inl (T 0, 440, .inl f)), (ou, .inl (T 4, 1, .inr (.inr (.inr (.inl (vf_upd oD 0 (FP.ddiv (FP.i2d (nI (lnN k n 1))) (FP.i2d (nI n)))))))))]) 5 1106 := by
  refine va_MetW (hh := [(0, 9, 12, 13), (0, 9, 16, 15), (0, 9, 20, 75)]) (cc := cL_growth) (maxL := 5) (ret := (some .int)) (by decide) rfl ?_
  intro p e s m args below meth c s₁ B hml hv
  obtain ⟨rfl, ⟨hsz, hP, hK, hD0, hG⟩, hN⟩ := hv
  have hx := B.exec
  have hb := B.bytes
  have hr := B.returns
  have hts := atoms_spec (ws := wsL_growth) B.pre
  have hown : s.vm.findClass RL = some m.cls := findClass_of_methodNamed B.named
  have hlocks := B.notSynchronized
  have htab : c.exceptionTable.toList = tableOf [(0, 9, 12, 13), (0, 9, 16, 15), (0, 9, 20, 75)] := vx_table (x := yL_add) B (hts _ (List.mem_of_getElem? (i := 0) rfl))
  subst hsz
  have hD := hD0.self (sz := s.heap.size)
  generalize hAe : va_A [(lo, .inr (2, [.ref ra, .ref d0, .ref b0, .ref t0, .ref r0])), (ra, .inl (T 2, 6, .inr (.inr (.inr (.inr (fun j => some (rd j))))))), (rd i, .inr (0, [.ref q0, .int (nI n)])), (q0, .inl (T 0, 440, .inl f)), (ou, .inl (T 4, 1, .inr (.inr (.inr (.inl oD)))))] s.heap.size = A at hD hG ⊢
  have hA : ∀ q : Nat, s.heap.size ≤ q → A q := fun q h => by rw [← hAe]; exact Or.inr h
  have hS : va_S A s.heap s.heap [] := va_S.rf
  have hP : va_P D cls [(lo, .inr (2, [.ref ra, .ref d0, .ref b0, .ref t0, .ref r0])), (ra, .inl (T 2, 6, .inr (.inr (.inr (.inr (fun j => some (rd j))))))), (rd i, .inr (0, [.ref q0, .int (nI n)])), (q0, .inl (T 0, 440, .inl f)), (ou, .inl (T 4, 1, .inr (.inr (.inr (.inl oD)))))] s.heap := hP
  have hl := lv_entry ([.ref lo, .int (nI i), .int (nI k), .ref ou]) (n := 5) (Nat.le_of_ble_eq_true rfl)
  rw [lg_entry_eq]
  generalize (lg_sl ([.ref lo, .int (nI i), .int (nI k), .ref ou]) ++ List.replicate (5 - (lg_sl ([.ref lo, .int (nI i), .int (nI k), .ref ou])).length) Slot.unset).toArray = ls at hl ⊢
  have hl : lv_has ls 5 [(0, .ref lo), (1, .int (nI i)), (2, .int (nI k)), (3, .ref ou)] := hl
  refine lv_aload_n hx hb dL_growth_0 rfl (lv_at hl 3 rfl) ?_
  refine lv_iconst (v := (nI 0)) hx hb dL_growth_1 (by decide +kernel) ?_
  refine lv_aload_n hx hb dL_growth_2 rfl (lv_at hl 0 rfl) ?_
  refine lv_iload_n hx hb dL_growth_3 rfl (lv_at hl 1 rfl) ?_
  refine lv_iload_n hx hb dL_growth_4 rfl (lv_at hl 2 rfl) ?_
  refine ro_V (As := [.int (nI i), .int (nI k)]) (rest := [.int (nI 0), .ref ou]) (wc := [(lo, .inr (2, [.ref ra, .ref d0, .ref b0, .ref t0, .ref r0])), (ra, .inl (T 2, 6, .inr (.inr (.inr (.inr (fun j => some (rd j))))))), (rd i, .inr (0, [.ref q0, .int (nI n)])), (q0, .inl (T 0, 440, .inl f))]) (r := .double (FP.ddiv (FP.i2d (nI (lnN k n 1))) (FP.i2d (nI n)))) ⟨hx, hb, hml, hown, hts⟩ (c_growth l D T g lo ra d0 b0 t0 r0 rd i q0 f n (hi) k (hk) (hn)) (cwV 2 hts gL_growth_X5_growth rfl rfl rfl (by decide +kernel) ⟨Nat.le_of_ble_eq_true rfl, Nat.le_of_ble_eq_true rfl⟩) (va_recv hK hP (ci := 2) (q0 := 0) rfl rfl) hP hK hG hS [0, 1, 2, 3] rfl ⟨Nat.zero_le _, Nat.zero_le _⟩ rfl hl.1 (Nat.le_of_ble_eq_true rfl) dL_growth_5 rfl ?_
  refine va_dast hx hb hK hP hD hS 4 4 rfl rfl (vp_in_nI (by omega) (by omega)) dL_growth_8 (fun H locs hP hD hS => ?_)
  rw [nI_clamp (by omega)] at hP hD
  have hP : va_P D cls [(lo, .inr (2, [.ref ra, .ref d0, .ref b0, .ref t0, .ref r0])), (ra, .inl (T 2, 6, .inr (.inr (.inr (.inr (fun j => some (rd j))))))), (rd i, .inr (0, [.ref q0, .int (nI n)])), (q0, .inl (T 0, 440, .inl f)), (ou, .inl (T 4, 1, .inr (.inr (.inr (.inl (vf_upd oD 0 (FP.ddiv (FP.i2d (nI (lnN k n 1))) (FP.i2d (nI n)))))))))] H := hP
  have hD : va_D A [(lo, .inr (2, [.ref ra, .ref d0, .ref b0, .ref t0, .ref r0])), (ra, .inl (T 2, 6, .inr (.inr (.inr (.inr (fun j => some (rd j))))))), (rd i, .inr (0, [.ref q0, .int (nI n)])), (q0, .inl (T 0, 440, .inl f)), (ou, .inl (T 4, 1, .inr (.inr (.inr (.inl (vf_upd oD 0 (FP.ddiv (FP.i2d (nI (lnN k n 1))) (FP.i2d (nI n)))))))))] := hD
  refine lv_goto (tgt := 24) hx hb dL_growth_9 (by decide) ?_
  refine lv_iconst (v := (nI 0)) hx hb dL_growth_24 (by decide +kernel) ?_
  have hP9 := hP.sub (ws' := [(lo, .inr (2, [.ref ra, .ref d0, .ref b0, .ref t0, .ref r0])), (ra, .inl (T 2, 6, .inr (.inr (.inr (.inr (fun j => some (rd j))))))), (rd i, .inr (0, [.ref q0, .int (nI n)])), (q0, .inl (T 0, 440, .inl f)), (ou, .inl (T 4, 1, .inr (.inr (.inr (.inl (vf_upd oD 0 (FP.ddiv (FP.i2d (nI (lnN k n 1))) (FP.i2d (nI n)))))))))]) [0, 1, 2, 3, 4] rfl
  have hD9 := hD.sub (ws' := [(lo, .inr (2, [.ref ra, .ref d0, .ref b0, .ref t0, .ref r0])), (ra, .inl (T 2, 6, .inr (.inr (.inr (.inr (fun j => some (rd j))))))), (rd i, .inr (0, [.ref q0, .int (nI n)])), (q0, .inl (T 0, 440, .inl f)), (ou, .inl (T 4, 1, .inr (.inr (.inr (.inl (vf_upd oD 0 (FP.ddiv (FP.i2d (nI (lnN k n 1))) (FP.i2d (nI n)))))))))]) [0, 1, 2, 3, 4] (by decide) rfl
  refine W.widen (k := 5) (n := 1106) (by omega) (by omega) ?_
  exact W.iret (v := (nI 0)) hx hb hr (fun t ht hW => ⟨⟨(), rfl, trivial, (by rw [ht]; exact hP9), va_K.moved hW.alike hK, hD9⟩, hS.F ht⟩) hS.2.2 dL_growth_25
set_option maxHeartbeats 4000000 in
set_option maxRecDepth 100000 in
theorem h_addMore_x1 (l : Launch) (D : va_G) (T : Nat → ClassId) (g : Nat → Nat) (sz : Nat) (hl9 : l.stackTraces = false) (lo : Nat) (ra : Nat) (d0 : Nat) (b0 : Nat) (t0 : Nat) (r0 : Nat) (rd : Nat → Nat) (i : Int32) (hi : i < 0 ∨ ¬ i < nI 6) (x0 : Int32) (x1 : Int32) (x2 : Int32) (x3 : Int32) (x4 : Int32) (x5 : Int32) (x6 : Int32) (x7 : Int32) (x8 : Int32) (ou : Nat) (o : Nat → Int64) : MUN l yL_addMore wsL_addMore ({ frames := 80, cells := 5, slots := 1106, locals := 4000 } : Room) D T g [.ref lo, .int i, .int x0, .int x1, .int x2, .int x3, .int x4, .int x5, .int x6, .int x7, .int x8, .ref ou] [(lo, .inr (2, [.ref ra, .ref d0, .ref b0, .ref t0, .ref r0])), (ra, .inl (T 2, 6, .inr (.inr (.inr (.inr (fun j => some (rd j))))))), (ou, .inl (T 3, 1, .inr (.inl o)))] sz (fun u : Unit => some (.int (nI 1))) (fun u : Unit => True) (fun u : Unit => [(lo, .inr (2, [.ref ra, .ref d0, .ref b0, .ref t0, .ref r0])), (ra, .inl (T 2, 6, .inr (.inr (.inr (.inr (fun j => some (rd j))))))), (ou, .inl (T 3, 1, .inr (.inl o)))]) 5 1106 := by
  refine va_MetW (hh := [(0, 26, 29, 13), (0, 26, 33, 15), (0, 26, 37, 17)]) (cc := cL_addMore) (maxL := 13) (ret := (some .int)) (by decide) rfl ?_
  intro p e s m args below meth c s₁ B hml hv
  obtain ⟨rfl, ⟨hsz, hP, hK, hD0, hG⟩, hN⟩ := hv
  have hx := B.exec
  have hb := B.bytes
  have hr := B.returns
  have hts := atoms_spec (ws := wsL_addMore) B.pre
  have hown : s.vm.findClass RL = some m.cls := findClass_of_methodNamed B.named
  have hlocks := B.notSynchronized
  have htab : c.exceptionTable.toList = tableOf [(0, 26, 29, 13), (0, 26, 33, 15), (0, 26, 37, 17)] := vx_table (x := yL_add) B (hts _ (List.mem_of_getElem? (i := 0) rfl))
  subst hsz
  have hD := hD0.self (sz := s.heap.size)
  generalize hAe : va_A [(lo, .inr (2, [.ref ra, .ref d0, .ref b0, .ref t0, .ref r0])), (ra, .inl (T 2, 6, .inr (.inr (.inr (.inr (fun j => some (rd j))))))), (ou, .inl (T 3, 1, .inr (.inl o)))] s.heap.size = A at hD hG ⊢
  have hA : ∀ q : Nat, s.heap.size ≤ q → A q := fun q h => by rw [← hAe]; exact Or.inr h
  have hS : va_S A s.heap s.heap [] := va_S.rf
  have hP : va_P D cls [(lo, .inr (2, [.ref ra, .ref d0, .ref b0, .ref t0, .ref r0])), (ra, .inl (T 2, 6, .inr (.inr (.inr (.inr (fun j => some (rd j))))))), (ou, .inl (T 3, 1, .inr (.inl o)))] s.heap := hP
  have hl := lv_entry ([.ref lo, .int i, .int x0, .int x1, .int x2, .int x3, .int x4, .int x5, .int x6, .int x7, .int x8, .ref ou]) (n := 13) (Nat.le_of_ble_eq_true rfl)
  rw [lg_entry_eq]
  generalize (lg_sl ([.ref lo, .int i, .int x0, .int x1, .int x2, .int x3, .int x4, .int x5, .int x6, .int x7, .int x8, .ref ou]) ++ List.replicate (13 - (lg_sl ([.ref lo, .int i, .int x0, .int x1, .int x2, .int x3, .int x4, .int x5, .int x6, .int x7, .int x8, .ref ou])).length) Slot.unset).toArray = ls at hl ⊢
  have hl : lv_has ls 13 [(0, .ref lo), (1, .int i), (2, .int x0), (3, .int x1), (4, .int x2), (5, .int x3), (6, .int x4), (7, .int x5), (8, .int x6), (9, .int x7), (10, .int x8), (11, .ref ou)] := hl
  refine lv_aload hx hb dL_addMore_0 (lv_at hl 11 rfl) ?_
  refine lv_iconst (v := (nI 0)) hx hb dL_addMore_2 (by decide +kernel) ?_
  refine lv_aload_n hx hb dL_addMore_3 rfl (lv_at hl 0 rfl) ?_
  refine lv_iload_n hx hb dL_addMore_4 rfl (lv_at hl 1 rfl) ?_
  refine lv_iload_n hx hb dL_addMore_5 rfl (lv_at hl 2 rfl) ?_
  refine lv_iload_n hx hb dL_addMore_6 rfl (lv_at hl 3 rfl) ?_
  refine lv_iload hx hb dL_addMore_7 (lv_at hl 4 rfl) ?_
  refine lv_iload hx hb dL_addMore_9 (lv_at hl 5 rfl) ?_
  refine lv_iload hx hb dL_addMore_11 (lv_at hl 6 rfl) ?_
  refine lv_iload hx hb dL_addMore_13 (lv_at hl 7 rfl) ?_
  refine lv_iload hx hb dL_addMore_15 (lv_at hl 8 rfl) ?_
  refine lv_iload hx hb dL_addMore_17 (lv_at hl 9 rfl) ?_
  refine lv_iload hx hb dL_addMore_19 (lv_at hl 10 rfl) ?_
  refine tc_V (hpc := 29) (As := [.int i, .int x0, .int x1, .int x2, .int x3, .int x4, .int x5, .int x6, .int x7, .int x8]) (rest := [.int (nI 0), .ref ou]) (wc := [(lo, .inr (2, [.ref ra, .ref d0, .ref b0, .ref t0, .ref r0])), (ra, .inl (T 2, 6, .inr (.inr (.inr (.inr (fun j => some (rd j)))))))]) (wr := [(ou, .inl (T 3, 1, .inr (.inl o)))]) ⟨hx, hb, hml, hown, hts⟩ (c_addMore_x1 l D T g s.heap.size (hl9) lo ra d0 b0 t0 r0 rd i (hi) x0 x1 x2 x3 x4 x5 x6 x7 x8) (cwV 10 hts gL_addMore_X5_addMore rfl rfl rfl (by decide +kernel) ⟨Nat.le_of_ble_eq_true rfl, Nat.le_of_ble_eq_true rfl⟩) (va_recv hK hP (ci := 2) (q0 := 0) rfl rfl) hP hD hK hG hS hA [0, 1] [2] rfl (by decide) rfl (by decide) (by decide) ⟨Nat.le_of_ble_eq_true rfl, Nat.le_of_ble_eq_true rfl⟩ rfl hl.1 (Nat.le_of_ble_eq_true rfl) dL_addMore_21 rfl (fun H1 locs1 q9 ce h1 h2 h3 k9 => vx_catch (name := "java/lang/IndexOutOfBoundsException") hown [] ⟨0, 26, 29, 13⟩ [⟨0, 26, 33, 15⟩, ⟨0, 26, 37, 17⟩] (htab.trans rfl) (fun _ h => absurd h List.not_mem_nil) (by decide) (by decide) (hts _ (List.mem_of_getElem? (i := 1) rfl)) (va_Yc.word (hN.2 _ (List.mem_of_getElem? (i := 0) rfl))) h1 h2 h3 k9) (fun u q9 H locs hq1 hP hD hS => ?_)
  refine W.widen (k := 1) (n := 6) (Nat.le_of_ble_eq_true rfl) (Nat.le_of_ble_eq_true rfl) ?_
  have hP : va_P D cls [(ou, .inl (T 3, 1, .inr (.inl o))), (lo, .inr (2, [.ref ra, .ref d0, .ref b0, .ref t0, .ref r0])), (ra, .inl (T 2, 6, .inr (.inr (.inr (.inr (fun j => some (rd j)))))))] H := hP
  have hD : va_D A [(ou, .inl (T 3, 1, .inr (.inl o))), (lo, .inr (2, [.ref ra, .ref d0, .ref b0, .ref t0, .ref r0])), (ra, .inl (T 2, 6, .inr (.inr (.inr (.inr (fun j => some (rd j)))))))] := hD
  refine lv_astore (lv' := [(12, .ref q9), (0, .ref lo), (1, .int i), (2, .int x0), (3, .int x1), (4, .int x2), (5, .int x3), (6, .int x4), (7, .int x5), (8, .int x6), (9, .int x7), (10, .int x8), (11, .ref ou)]) hx hb dL_addMore_29 hl (by decide) rfl (fun ls hl => ?_)
  refine lv_iconst (v := (nI 1)) hx hb dL_addMore_31 (by decide +kernel) ?_
  have hP9 := hP.sub (ws' := [(lo, .inr (2, [.ref ra, .ref d0, .ref b0, .ref t0, .ref r0])), (ra, .inl (T 2, 6, .inr (.inr (.inr (.inr (fun j => some (rd j))))))), (ou, .inl (T 3, 1, .inr (.inl o)))]) [1, 2, 0] rfl
  have hD9 := hD.sub (ws' := [(lo, .inr (2, [.ref ra, .ref d0, .ref b0, .ref t0, .ref r0])), (ra, .inl (T 2, 6, .inr (.inr (.inr (.inr (fun j => some (rd j))))))), (ou, .inl (T 3, 1, .inr (.inl o)))]) [1, 2, 0] (by decide) rfl
  refine W.widen (k := 5) (n := 1106) (by omega) (by omega) ?_
  exact W.iret (v := (nI 1)) hx hb hr (fun t ht hW => ⟨⟨(), rfl, trivial, (by rw [ht]; exact hP9), va_K.moved hW.alike hK, hD9⟩, hS.F ht⟩) hS.2.2 dL_addMore_32
set_option maxHeartbeats 4000000 in
set_option maxRecDepth 100000 in
theorem h_addMore_x2 (l : Launch) (D : va_G) (T : Nat → ClassId) (g : Nat → Nat) (sz : Nat) (hl9 : l.stackTraces = false) (lo : Nat) (ra : Nat) (d0 : Nat) (b0 : Nat) (t0 : Nat) (r0 : Nat) (rd : Nat → Nat) (i : Nat) (q0 : Nat) (f : Nat → Int32) (n : Nat) (hi : i < 6) (m9 : Int32) (y0 : Int32) (y1 : Int32) (y2 : Int32) (y3 : Int32) (y4 : Int32) (y5 : Int32) (y6 : Int32) (y7 : Int32) (hm : m9 < nI 1 ∨ ¬ m9 ≤ nI 8) (ou : Nat) (o : Nat → Int64) : MUN l yL_addMore wsL_addMore ({ frames := 80, cells := 5, slots := 1106, locals := 4000 } : Room) D T g [.ref lo, .int (nI i), .int m9, .int y0, .int y1, .int y2, .int y3, .int y4, .int y5, .int y6, .int y7, .ref ou] [(lo, .inr (2, [.ref ra, .ref d0, .ref b0, .ref t0, .ref r0])), (ra, .inl (T 2, 6, .inr (.inr (.inr (.inr (fun j => some (rd j))))))), (rd i, .inr (0, [.ref q0, .int (nI n)])), (q0, .inl (T 0, 440, .inl f)), (ou, .inl (T 3, 1, .inr (.inl o)))] sz (fun u : Unit => some (.int (nI 2))) (fun u : Unit => True) (fun u : Unit => [(lo, .inr (2, [.ref ra, .ref d0, .ref b0, .ref t0, .ref r0])), (ra, .inl (T 2, 6, .inr (.inr (.inr (.inr (fun j => some (rd j))))))), (rd i, .inr (0, [.ref q0, .int (nI n)])), (q0, .inl (T 0, 440, .inl f)), (ou, .inl (T 3, 1, .inr (.inl o)))]) 5 1106 := by
  refine va_MetW (hh := [(0, 26, 29, 13), (0, 26, 33, 15), (0, 26, 37, 17)]) (cc := cL_addMore) (maxL := 13) (ret := (some .int)) (by decide) rfl ?_
  intro p e s m args below meth c s₁ B hml hv
  obtain ⟨rfl, ⟨hsz, hP, hK, hD0, hG⟩, hN⟩ := hv
  have hx := B.exec
  have hb := B.bytes
  have hr := B.returns
  have hts := atoms_spec (ws := wsL_addMore) B.pre
  have hown : s.vm.findClass RL = some m.cls := findClass_of_methodNamed B.named
  have hlocks := B.notSynchronized
  have htab : c.exceptionTable.toList = tableOf [(0, 26, 29, 13), (0, 26, 33, 15), (0, 26, 37, 17)] := vx_table (x := yL_add) B (hts _ (List.mem_of_getElem? (i := 0) rfl))
  subst hsz
  have hD := hD0.self (sz := s.heap.size)
  generalize hAe : va_A [(lo, .inr (2, [.ref ra, .ref d0, .ref b0, .ref t0, .ref r0])), (ra, .inl (T 2, 6, .inr (.inr (.inr (.inr (fun j => some (rd j))))))), (rd i, .inr (0, [.ref q0, .int (nI n)])), (q0, .inl (T 0, 440, .inl f)), (ou, .inl (T 3, 1, .inr (.inl o)))] s.heap.size = A at hD hG ⊢
  have hA : ∀ q : Nat, s.heap.size ≤ q → A q := fun q h => by rw [← hAe]; exact Or.inr h
  have hS : va_S A s.heap s.heap [] := va_S.rf
  have hP : va_P D cls [(lo, .inr (2, [.ref ra, .ref d0, .ref b0, .ref t0, .ref r0])), (ra, .inl (T 2, 6, .inr (.inr (.inr (.inr (fun j => some (rd j))))))), (rd i, .inr (0, [.ref q0, .int (nI n)])), (q0, .inl (T 0, 440, .inl f)), (ou, .inl (T 3, 1, .inr (.inl o)))] s.heap := hP
  have hl := lv_entry ([.ref lo, .int (nI i), .int m9, .int y0, .int y1, .int y2, .int y3, .int y4, .int y5, .int y6, .int y7, .ref ou]) (n := 13) (Nat.le_of_ble_eq_true rfl)
  rw [lg_entry_eq]
  generalize (lg_sl ([.ref lo, .int (nI i), .int m9, .int y0, .int y1, .int y2, .int y3, .int y4, .int y5, .int y6, .int y7, .ref ou]) ++ List.replicate (13 - (lg_sl ([.ref lo, .int (nI i), .int m9, .int y0, .int y1, .int y2, .int y3, .int y4, .int y5, .int y6, .int y7, .ref ou])).length) Slot.unset).toArray = ls at hl ⊢
  have hl : lv_has ls 13 [(0, .ref lo), (1, .int (nI i)), (2, .int m9), (3, .int y0), (4, .int y1), (5, .int y2), (6, .int y3), (7, .int y4), (8, .int y5), (9, .int y6), (10, .int y7), (11, .ref ou)] := hl
  refine lv_aload hx hb dL_addMore_0 (lv_at hl 11 rfl) ?_
  refine lv_iconst (v := (nI 0)) hx hb dL_addMore_2 (by decide +kernel) ?_
  refine lv_aload_n hx hb dL_addMore_3 rfl (lv_at hl 0 rfl) ?_
  refine lv_iload_n hx hb dL_addMore_4 rfl (lv_at hl 1 rfl) ?_
  refine lv_iload_n hx hb dL_addMore_5 rfl (lv_at hl 2 rfl) ?_
  refine lv_iload_n hx hb dL_addMore_6 rfl (lv_at hl 3 rfl) ?_
  refine lv_iload hx hb dL_addMore_7 (lv_at hl 4 rfl) ?_
  refine lv_iload hx hb dL_addMore_9 (lv_at hl 5 rfl) ?_
  refine lv_iload hx hb dL_addMore_11 (lv_at hl 6 rfl) ?_
  refine lv_iload hx hb dL_addMore_13 (lv_at hl 7 rfl) ?_
  refine lv_iload hx hb dL_addMore_15 (lv_at hl 8 rfl) ?_
  refine lv_iload hx hb dL_addMore_17 (lv_at hl 9 rfl) ?_
  refine lv_iload hx hb dL_addMore_19 (lv_at hl 10 rfl) ?_
  refine tc_V (hpc := 33) (As := [.int (nI i), .int m9, .int y0, .int y1, .int y2, .int y3, .int y4, .int y5, .int y6, .int y7]) (rest := [.int (nI 0), .ref ou]) (wc := [(lo, .inr (2, [.ref ra, .ref d0, .ref b0, .ref t0, .ref r0])), (ra, .inl (T 2, 6, .inr (.inr (.inr (.inr (fun j => some (rd j))))))), (rd i, .inr (0, [.ref q0, .int (nI n)])), (q0, .inl (T 0, 440, .inl f))]) (wr := [(ou, .inl (T 3, 1, .inr (.inl o)))]) ⟨hx, hb, hml, hown, hts⟩ (c_addMore_x2 l D T g s.heap.size (hl9) lo ra d0 b0 t0 r0 rd i q0 f n (hi) m9 y0 y1 y2 y3 y4 y5 y6 y7 (hm)) (cwV 10 hts gL_addMore_X5_addMore rfl rfl rfl (by decide +kernel) ⟨Nat.le_of_ble_eq_true rfl, Nat.le_of_ble_eq_true rfl⟩) (va_recv hK hP (ci := 2) (q0 := 0) rfl rfl) hP hD hK hG hS hA [0, 1, 2, 3] [4] rfl (by decide) rfl (by decide) (by decide) ⟨Nat.le_of_ble_eq_true rfl, Nat.le_of_ble_eq_true rfl⟩ rfl hl.1 (Nat.le_of_ble_eq_true rfl) dL_addMore_21 rfl (fun H1 locs1 q9 ce h1 h2 h3 k9 => vx_catch (name := "java/lang/IllegalArgumentException") hown [⟨0, 26, 29, 13⟩] ⟨0, 26, 33, 15⟩ [⟨0, 26, 37, 17⟩] (htab.trans rfl) (List.forall_mem_cons.mpr ⟨Or.inr ⟨by decide, "java/lang/IndexOutOfBoundsException", (hts _ (List.mem_of_getElem? (i := 1) rfl)), hN.1 _ (List.mem_of_getElem? (i := 0) rfl)⟩, (fun _ h => absurd h List.not_mem_nil)⟩) (by decide) (by decide) (hts _ (List.mem_of_getElem? (i := 2) rfl)) (va_Yc.word (hN.2 _ (List.mem_of_getElem? (i := 1) rfl))) h1 h2 h3 k9) (fun u q9 H locs hq1 hP hD hS => ?_)
  refine W.widen (k := 1) (n := 6) (Nat.le_of_ble_eq_true rfl) (Nat.le_of_ble_eq_true rfl) ?_
  have hP : va_P D cls [(ou, .inl (T 3, 1, .inr (.inl o))), (lo, .inr (2, [.ref ra, .ref d0, .ref b0, .ref t0, .ref r0])), (ra, .inl (T 2, 6, .inr (.inr (.inr (.inr (fun j => some (rd j))))))), (rd i, .inr (0, [.ref q0, .int (nI n)])), (q0, .inl (T 0, 440, .inl f))] H := hP
  have hD : va_D A [(ou, .inl (T 3, 1, .inr (.inl o))), (lo, .inr (2, [.ref ra, .ref d0, .ref b0, .ref t0, .ref r0])), (ra, .inl (T 2, 6, .inr (.inr (.inr (.inr (fun j => some (rd j))))))), (rd i, .inr (0, [.ref q0, .int (nI n)])), (q0, .inl (T 0, 440, .inl f))] := hD
  refine lv_astore (lv' := [(12, .ref q9), (0, .ref lo), (1, .int (nI i)), (2, .int m9), (3, .int y0), (4, .int y1), (5, .int y2), (6, .int y3), (7, .int y4), (8, .int y5), (9, .int y6), (10, .int y7), (11, .ref ou)]) hx hb dL_addMore_33 hl (by decide) rfl (fun ls hl => ?_)
  refine lv_iconst (v := (nI 2)) hx hb dL_addMore_35 (by decide +kernel) ?_
  have hP9 := hP.sub (ws' := [(lo, .inr (2, [.ref ra, .ref d0, .ref b0, .ref t0, .ref r0])), (ra, .inl (T 2, 6, .inr (.inr (.inr (.inr (fun j => some (rd j))))))), (rd i, .inr (0, [.ref q0, .int (nI n)])), (q0, .inl (T 0, 440, .inl f)), (ou, .inl (T 3, 1, .inr (.inl o)))]) [1, 2, 3, 4, 0] rfl
  have hD9 := hD.sub (ws' := [(lo, .inr (2, [.ref ra, .ref d0, .ref b0, .ref t0, .ref r0])), (ra, .inl (T 2, 6, .inr (.inr (.inr (.inr (fun j => some (rd j))))))), (rd i, .inr (0, [.ref q0, .int (nI n)])), (q0, .inl (T 0, 440, .inl f)), (ou, .inl (T 3, 1, .inr (.inl o)))]) [1, 2, 3, 4, 0] (by decide) rfl
  refine W.widen (k := 5) (n := 1106) (by omega) (by omega) ?_
  exact W.iret (v := (nI 2)) hx hb hr (fun t ht hW => ⟨⟨(), rfl, trivial, (by rw [ht]; exact hP9), va_K.moved hW.alike hK, hD9⟩, hS.F ht⟩) hS.2.2 dL_addMore_36
set_option maxHeartbeats 4000000 in
set_option maxRecDepth 100000 in
theorem h_addMore_x3 (l : Launch) (D : va_G) (T : Nat → ClassId) (g : Nat → Nat) (sz : Nat) (hl9 : l.stackTraces = false) (lo : Nat) (ra : Nat) (d0 : Nat) (b0 : Nat) (t0 : Nat) (r0 : Nat) (rd : Nat → Nat) (dq : Nat) (df : Nat → Int32) (dn : Nat) (i : Nat) (q0 : Nat) (f : Nat → Int32) (n : Nat) (hi : i < 6) (m9 : Nat) (hm : 1 ≤ m9 ∧ m9 ≤ 8) (v : Nat → Nat) (y0 : Int32) (y1 : Int32) (y2 : Int32) (y3 : Int32) (y4 : Int32) (y5 : Int32) (y6 : Int32) (y7 : Int32) (z0 : Nat) (hz : z0 < m9) (hgd : ∀ j, j < z0 → (gvN y0 y1 y2 y3 y4 y5 y6 y7) j = nI (v j) ∧ v j < 256) (hzb : (gvN y0 y1 y2 y3 y4 y5 y6 y7) z0 < 0 ∨ ¬ (gvN y0 y1 y2 y3 y4 y5 y6 y7) z0 ≤ nI 255) (ou : Nat) (o : Nat → Int64) : MUN l yL_addMore wsL_addMore ({ frames := 80, cells := 5, slots := 1106, locals := 4000 } : Room) D T g [.ref lo, .int (nI i), .int (nI m9), .int y0, .int y1, .int y2, .int y3, .int y4, .int y5, .int y6, .int y7, .ref ou] [(lo, .inr (2, [.ref ra, .ref d0, .ref b0, .ref t0, .ref r0])), (ra, .inl (T 2, 6, .inr (.inr (.inr (.inr (fun j => some (rd j))))))), (rd i, .inr (0, [.ref q0, .int (nI n)])), (q0, .inl (T 0, 440, .inl f)), (d0, .inr (0, [.ref dq, .int (nI dn)])), (dq, .inl (T 0, 440, .inl df)), (ou, .inl (T 3, 1, .inr (.inl o)))] sz (fun u : Nat → Int32 => some (.int (nI 2))) (fun u : Nat → Int32 => True) (fun u : Nat → Int32 => [(lo, .inr (2, [.ref ra, .ref d0, .ref b0, .ref t0, .ref r0])), (ra, .inl (T 2, 6, .inr (.inr (.inr (.inr (fun j => some (rd j))))))), (rd i, .inr (0, [.ref q0, .int (nI n)])), (q0, .inl (T 0, 440, .inl f)), (d0, .inr (0, [.ref dq, .int (nI m9)])), (dq, .inl (T 0, 440, .inl u)), (ou, .inl (T 3, 1, .inr (.inl o)))]) 5 1106 := by
  refine va_MetW (hh := [(0, 26, 29, 13), (0, 26, 33, 15), (0, 26, 37, 17)]) (cc := cL_addMore) (maxL := 13) (ret := (some .int)) (by decide) rfl ?_
  intro p e s m args below meth c s₁ B hml hv
  obtain ⟨rfl, ⟨hsz, hP, hK, hD0, hG⟩, hN⟩ := hv
  have hx := B.exec
  have hb := B.bytes
  have hr := B.returns
  have hts := atoms_spec (ws := wsL_addMore) B.pre
  have hown : s.vm.findClass RL = some m.cls := findClass_of_methodNamed B.named
  have hlocks := B.notSynchronized
  have htab : c.exceptionTable.toList = tableOf [(0, 26, 29, 13), (0, 26, 33, 15), (0, 26, 37, 17)] := vx_table (x := yL_add) B (hts _ (List.mem_of_getElem? (i := 0) rfl))
  subst hsz
  have hD := hD0.self (sz := s.heap.size)
  generalize hAe : va_A [(lo, .inr (2, [.ref ra, .ref d0, .ref b0, .ref t0, .ref r0])), (ra, .inl (T 2, 6, .inr (.inr (.inr (.inr (fun j => some (rd j))))))), (rd i, .inr (0, [.ref q0, .int (nI n)])), (q0, .inl (T 0, 440, .inl f)), (d0, .inr (0, [.ref dq, .int (nI dn)])), (dq, .inl (T 0, 440, .inl df)), (ou, .inl (T 3, 1, .inr (.inl o)))] s.heap.size = A at hD hG ⊢
  have hA : ∀ q : Nat, s.heap.size ≤ q → A q := fun q h => by rw [← hAe]; exact Or.inr h
  have hS : va_S A s.heap s.heap [] := va_S.rf
  have hP : va_P D cls [(lo, .inr (2, [.ref ra, .ref d0, .ref b0, .ref t0, .ref r0])), (ra, .inl (T 2, 6, .inr (.inr (.inr (.inr (fun j => some (rd j))))))), (rd i, .inr (0, [.ref q0, .int (nI n)])), (q0, .inl (T 0, 440, .inl f)), (d0, .inr (0, [.ref dq, .int (nI dn)])), (dq, .inl (T 0, 440, .inl df)), (ou, .inl (T 3, 1, .inr (.inl o)))] s.heap := hP
  have hl := lv_entry ([.ref lo, .int (nI i), .int (nI m9), .int y0, .int y1, .int y2, .int y3, .int y4, .int y5, .int y6, .int y7, .ref ou]) (n := 13) (Nat.le_of_ble_eq_true rfl)
  rw [lg_entry_eq]
  generalize (lg_sl ([.ref lo, .int (nI i), .int (nI m9), .int y0, .int y1, .int y2, .int y3, .int y4, .int y5, .int y6, .int y7, .ref ou]) ++ List.replicate (13 - (lg_sl ([.ref lo, .int (nI i), .int (nI m9), .int y0, .int y1, .int y2, .int y3, .int y4, .int y5, .int y6, .int y7, .ref ou])).length) Slot.unset).toArray = ls at hl ⊢
  have hl : lv_has ls 13 [(0, .ref lo), (1, .int (nI i)), (2, .int (nI m9)), (3, .int y0), (4, .int y1), (5, .int y2), (6, .int y3), (7, .int y4), (8, .int y5), (9, .int y6), (10, .int y7), (11, .ref ou)] := hl
  refine lv_aload hx hb dL_addMore_0 (lv_at hl 11 rfl) ?_
  refine lv_iconst (v := (nI 0)) hx hb dL_addMore_2 (by decide +kernel) ?_
  refine lv_aload_n hx hb dL_addMore_3 rfl (lv_at hl 0 rfl) ?_
  refine lv_iload_n hx hb dL_addMore_4 rfl (lv_at hl 1 rfl) ?_
  refine lv_iload_n hx hb dL_addMore_5 rfl (lv_at hl 2 rfl) ?_
  refine lv_iload_n hx hb dL_addMore_6 rfl (lv_at hl 3 rfl) ?_
  refine lv_iload hx hb dL_addMore_7 (lv_at hl 4 rfl) ?_
  refine lv_iload hx hb dL_addMore_9 (lv_at hl 5 rfl) ?_
  refine lv_iload hx hb dL_addMore_11 (lv_at hl 6 rfl) ?_
  refine lv_iload hx hb dL_addMore_13 (lv_at hl 7 rfl) ?_
  refine lv_iload hx hb dL_addMore_15 (lv_at hl 8 rfl) ?_
  refine lv_iload hx hb dL_addMore_17 (lv_at hl 9 rfl) ?_
  refine lv_iload hx hb dL_addMore_19 (lv_at hl 10 rfl) ?_
  refine tc_V (hpc := 33) (As := [.int (nI i), .int (nI m9), .int y0, .int y1, .int y2, .int y3, .int y4, .int y5, .int y6, .int y7]) (rest := [.int (nI 0), .ref ou]) (wc := [(lo, .inr (2, [.ref ra, .ref d0, .ref b0, .ref t0, .ref r0])), (ra, .inl (T 2, 6, .inr (.inr (.inr (.inr (fun j => some (rd j))))))), (rd i, .inr (0, [.ref q0, .int (nI n)])), (q0, .inl (T 0, 440, .inl f)), (d0, .inr (0, [.ref dq, .int (nI dn)])), (dq, .inl (T 0, 440, .inl df))]) (wr := [(ou, .inl (T 3, 1, .inr (.inl o)))]) ⟨hx, hb, hml, hown, hts⟩ (c_addMore_x3 l D T g s.heap.size (hl9) lo ra d0 b0 t0 r0 rd dq df dn i q0 f n (hi) m9 (hm) v y0 y1 y2 y3 y4 y5 y6 y7 z0 (hz) (hgd) (hzb)) (cwV 10 hts gL_addMore_X5_addMore rfl rfl rfl (by decide +kernel) ⟨Nat.le_of_ble_eq_true rfl, Nat.le_of_ble_eq_true rfl⟩) (va_recv hK hP (ci := 2) (q0 := 0) rfl rfl) hP hD hK hG hS hA [0, 1, 2, 3, 4, 5] [6] rfl (by decide) rfl (by decide) (by decide) ⟨Nat.le_of_ble_eq_true rfl, Nat.le_of_ble_eq_true rfl⟩ rfl hl.1 (Nat.le_of_ble_eq_true rfl) dL_addMore_21 rfl (fun H1 locs1 q9 ce h1 h2 h3 k9 => vx_catch (name := "java/lang/IllegalArgumentException") hown [⟨0, 26, 29, 13⟩] ⟨0, 26, 33, 15⟩ [⟨0, 26, 37, 17⟩] (htab.trans rfl) (List.forall_mem_cons.mpr ⟨Or.inr ⟨by decide, "java/lang/IndexOutOfBoundsException", (hts _ (List.mem_of_getElem? (i := 1) rfl)), hN.1 _ (List.mem_of_getElem? (i := 0) rfl)⟩, (fun _ h => absurd h List.not_mem_nil)⟩) (by decide) (by decide) (hts _ (List.mem_of_getElem? (i := 2) rfl)) (va_Yc.word (hN.2 _ (List.mem_of_getElem? (i := 1) rfl))) h1 h2 h3 k9) (fun u q9 H locs hq2 hP hD hS => ?_)
  obtain ⟨DF_1, hu9⟩ : ∃ z, z = u := ⟨_, rfl⟩
  subst hu9
  refine W.widen (k := 1) (n := 6) (Nat.le_of_ble_eq_true rfl) (Nat.le_of_ble_eq_true rfl) ?_
  have hP : va_P D cls [(ou, .inl (T 3, 1, .inr (.inl o))), (lo, .inr (2, [.ref ra, .ref d0, .ref b0, .ref t0, .ref r0])), (ra, .inl (T 2, 6, .inr (.inr (.inr (.inr (fun j => some (rd j))))))), (rd i, .inr (0, [.ref q0, .int (nI n)])), (q0, .inl (T 0, 440, .inl f)), (d0, .inr (0, [.ref dq, .int (nI m9)])), (dq, .inl (T 0, 440, .inl DF_1))] H := hP
  have hD : va_D A [(ou, .inl (T 3, 1, .inr (.inl o))), (lo, .inr (2, [.ref ra, .ref d0, .ref b0, .ref t0, .ref r0])), (ra, .inl (T 2, 6, .inr (.inr (.inr (.inr (fun j => some (rd j))))))), (rd i, .inr (0, [.ref q0, .int (nI n)])), (q0, .inl (T 0, 440, .inl f)), (d0, .inr (0, [.ref dq, .int (nI m9)])), (dq, .inl (T 0, 440, .inl DF_1))] := hD
  refine lv_astore (lv' := [(12, .ref q9), (0, .ref lo), (1, .int (nI i)), (2, .int (nI m9)), (3, .int y0), (4, .int y1), (5, .int y2), (6, .int y3), (7, .int y4), (8, .int y5), (9, .int y6), (10, .int y7), (11, .ref ou)]) hx hb dL_addMore_33 hl (by decide) rfl (fun ls hl => ?_)
  refine lv_iconst (v := (nI 2)) hx hb dL_addMore_35 (by decide +kernel) ?_
  have hP9 := hP.sub (ws' := [(lo, .inr (2, [.ref ra, .ref d0, .ref b0, .ref t0, .ref r0])), (ra, .inl (T 2, 6, .inr (.inr (.inr (.inr (fun j => some (rd j))))))), (rd i, .inr (0, [.ref q0, .int (nI n)])), (q0, .inl (T 0, 440, .inl f)), (d0, .inr (0, [.ref dq, .int (nI m9)])), (dq, .inl (T 0, 440, .inl DF_1)), (ou, .inl (T 3, 1, .inr (.inl o)))]) [1, 2, 3, 4, 5, 6, 0] rfl
  have hD9 := hD.sub (ws' := [(lo, .inr (2, [.ref ra, .ref d0, .ref b0, .ref t0, .ref r0])), (ra, .inl (T 2, 6, .inr (.inr (.inr (.inr (fun j => some (rd j))))))), (rd i, .inr (0, [.ref q0, .int (nI n)])), (q0, .inl (T 0, 440, .inl f)), (d0, .inr (0, [.ref dq, .int (nI m9)])), (dq, .inl (T 0, 440, .inl DF_1)), (ou, .inl (T 3, 1, .inr (.inl o)))]) [1, 2, 3, 4, 5, 6, 0] (by decide) rfl
  refine W.widen (k := 5) (n := 1106) (by omega) (by omega) ?_
  exact W.iret (v := (nI 2)) hx hb hr (fun t ht hW => ⟨⟨DF_1, rfl, trivial, (by rw [ht]; exact hP9), va_K.moved hW.alike hK, hD9⟩, hS.F ht⟩) hS.2.2 dL_addMore_36
set_option maxHeartbeats 4000000 in
set_option maxRecDepth 100000 in
theorem h_addMore_x4 (l : Launch) (D : va_G) (T : Nat → ClassId) (g : Nat → Nat) (sz : Nat) (hl9 : l.stackTraces = false) (lo : Nat) (ra : Nat) (d0 : Nat) (b0 : Nat) (t0 : Nat) (r0 : Nat) (rd : Nat → Nat) (dq : Nat) (df : Nat → Int32) (dn : Nat) (i : Nat) (q0 : Nat) (f : Nat → Int32) (n : Nat) (hi : i < 6) (m9 : Nat) (hm : 1 ≤ m9 ∧ m9 ≤ 8) (v : Nat → Nat) (y0 : Int32) (y1 : Int32) (y2 : Int32) (y3 : Int32) (y4 : Int32) (y5 : Int32) (y6 : Int32) (y7 : Int32) (hgd : ∀ j, j < m9 → (gvN y0 y1 y2 y3 y4 y5 y6 y7) j = nI (v j) ∧ v j < 256) (hn : 320 < n + m9 ∧ n ≤ 320) (ou : Nat) (o : Nat → Int64) : MUN l yL_addMore wsL_addMore ({ frames := 80, cells := 5, slots := 1106, locals := 4000 } : Room) D T g [.ref lo, .int (nI i), .int (nI m9), .int y0, .int y1, .int y2, .int y3, .int y4, .int y5, .int y6, .int y7, .ref ou] [(lo, .inr (2, [.ref ra, .ref d0, .ref b0, .ref t0, .ref r0])), (ra, .inl (T 2, 6, .inr (.inr (.inr (.inr (fun j => some (rd j))))))), (rd i, .inr (0, [.ref q0, .int (nI n)])), (q0, .inl (T 0, 440, .inl f)), (d0, .inr (0, [.ref dq, .int (nI dn)])), (dq, .inl (T 0, 440, .inl df)), (ou, .inl (T 3, 1, .inr (.inl o)))] sz (fun u : Nat → Int32 => some (.int (nI 3))) (fun u : Nat → Int32 => True) (fun u : Nat → Int32 => [(lo, .inr (2, [.ref ra, .ref d0, .ref b0, .ref t0, .ref r0])), (ra, .inl (T 2, 6, .inr (.inr (.inr (.inr (fun j => some (rd j))))))), (rd i, .inr (0, [.ref q0, .int (nI n)])), (q0, .inl (T 0, 440, .inl f)), (d0, .inr (0, [.ref dq, .int (nI m9)])), (dq, .inl (T 0, 440, .inl u)), (ou, .inl (T 3, 1, .inr (.inl o)))]) 5 1106 := by
  refine va_MetW (hh := [(0, 26, 29, 13), (0, 26, 33, 15), (0, 26, 37, 17)]) (cc := cL_addMore) (maxL := 13) (ret := (some .int)) (by decide) rfl ?_
  intro p e s m args below meth c s₁ B hml hv
  obtain ⟨rfl, ⟨hsz, hP, hK, hD0, hG⟩, hN⟩ := hv
  have hx := B.exec
  have hb := B.bytes
  have hr := B.returns
  have hts := atoms_spec (ws := wsL_addMore) B.pre
  have hown : s.vm.findClass RL = some m.cls := findClass_of_methodNamed B.named
  have hlocks := B.notSynchronized
  have htab : c.exceptionTable.toList = tableOf [(0, 26, 29, 13), (0, 26, 33, 15), (0, 26, 37, 17)] := vx_table (x := yL_add) B (hts _ (List.mem_of_getElem? (i := 0) rfl))
  subst hsz
  have hD := hD0.self (sz := s.heap.size)
  generalize hAe : va_A [(lo, .inr (2, [.ref ra, .ref d0, .ref b0, .ref t0, .ref r0])), (ra, .inl (T 2, 6, .inr (.inr (.inr (.inr (fun j => some (rd j))))))), (rd i, .inr (0, [.ref q0, .int (nI n)])), (q0, .inl (T 0, 440, .inl f)), (d0, .inr (0, [.ref dq, .int (nI dn)])), (dq, .inl (T 0, 440, .inl df)), (ou, .inl (T 3, 1, .inr (.inl o)))] s.heap.size = A at hD hG ⊢
  have hA : ∀ q : Nat, s.heap.size ≤ q → A q := fun q h => by rw [← hAe]; exact Or.inr h
  have hS : va_S A s.heap s.heap [] := va_S.rf
  have hP : va_P D cls [(lo, .inr (2, [.ref ra, .ref d0, .ref b0, .ref t0, .ref r0])), (ra, .inl (T 2, 6, .inr (.inr (.inr (.inr (fun j => some (rd j))))))), (rd i, .inr (0, [.ref q0, .int (nI n)])), (q0, .inl (T 0, 440, .inl f)), (d0, .inr (0, [.ref dq, .int (nI dn)])), (dq, .inl (T 0, 440, .inl df)), (ou, .inl (T 3, 1, .inr (.inl o)))] s.heap := hP
  have hl := lv_entry ([.ref lo, .int (nI i), .int (nI m9), .int y0, .int y1, .int y2, .int y3, .int y4, .int y5, .int y6, .int y7, .ref ou]) (n := 13) (Nat.le_of_ble_eq_true rfl)
  rw [lg_entry_eq]
  generalize (lg_sl ([.ref lo, .int (nI i), .int (nI m9), .int y0, .int y1, .int y2, .int y3, .int y4, .int y5, .int y6, .int y7, .ref ou]) ++ List.replicate (13 - (lg_sl ([.ref lo, .int (nI i), .int (nI m9), .int y0, .int y1, .int y2, .int y3, .int y4, .int y5, .int y6, .int y7, .ref ou])).length) Slot.unset).toArray = ls at hl ⊢
  have hl : lv_has ls 13 [(0, .ref lo), (1, .int (nI i)), (2, .int (nI m9)), (3, .int y0), (4, .int y1), (5, .int y2), (6, .int y3), (7, .int y4), (8, .int y5), (9, .int y6), (10, .int y7), (11, .ref ou)] := hl
  refine lv_aload hx hb dL_addMore_0 (lv_at hl 11 rfl) ?_
  refine lv_iconst (v := (nI 0)) hx hb dL_addMore_2 (by decide +kernel) ?_
  refine lv_aload_n hx hb dL_addMore_3 rfl (lv_at hl 0 rfl) ?_
  refine lv_iload_n hx hb dL_addMore_4 rfl (lv_at hl 1 rfl) ?_
  refine lv_iload_n hx hb dL_addMore_5 rfl (lv_at hl 2 rfl) ?_
  refine lv_iload_n hx hb dL_addMore_6 rfl (lv_at hl 3 rfl) ?_
  refine lv_iload hx hb dL_addMore_7 (lv_at hl 4 rfl) ?_
  refine lv_iload hx hb dL_addMore_9 (lv_at hl 5 rfl) ?_
  refine lv_iload hx hb dL_addMore_11 (lv_at hl 6 rfl) ?_
  refine lv_iload hx hb dL_addMore_13 (lv_at hl 7 rfl) ?_
  refine lv_iload hx hb dL_addMore_15 (lv_at hl 8 rfl) ?_
  refine lv_iload hx hb dL_addMore_17 (lv_at hl 9 rfl) ?_
  refine lv_iload hx hb dL_addMore_19 (lv_at hl 10 rfl) ?_
  refine tc_V (hpc := 37) (As := [.int (nI i), .int (nI m9), .int y0, .int y1, .int y2, .int y3, .int y4, .int y5, .int y6, .int y7]) (rest := [.int (nI 0), .ref ou]) (wc := [(lo, .inr (2, [.ref ra, .ref d0, .ref b0, .ref t0, .ref r0])), (ra, .inl (T 2, 6, .inr (.inr (.inr (.inr (fun j => some (rd j))))))), (rd i, .inr (0, [.ref q0, .int (nI n)])), (q0, .inl (T 0, 440, .inl f)), (d0, .inr (0, [.ref dq, .int (nI dn)])), (dq, .inl (T 0, 440, .inl df))]) (wr := [(ou, .inl (T 3, 1, .inr (.inl o)))]) ⟨hx, hb, hml, hown, hts⟩ (c_addMore_x4 l D T g s.heap.size (hl9) lo ra d0 b0 t0 r0 rd dq df dn i q0 f n (hi) m9 (hm) v y0 y1 y2 y3 y4 y5 y6 y7 (hgd) (hn)) (cwV 10 hts gL_addMore_X5_addMore rfl rfl rfl (by decide +kernel) ⟨Nat.le_of_ble_eq_true rfl, Nat.le_of_ble_eq_true rfl⟩) (va_recv hK hP (ci := 2) (q0 := 0) rfl rfl) hP hD hK hG hS hA [0, 1, 2, 3, 4, 5] [6] rfl (by decide) rfl (by decide) (by decide) ⟨Nat.le_of_ble_eq_true rfl, Nat.le_of_ble_eq_true rfl⟩ rfl hl.1 (Nat.le_of_ble_eq_true rfl) dL_addMore_21 rfl (fun H1 locs1 q9 ce h1 h2 h3 k9 => vx_catch (name := "java/lang/IllegalStateException") hown [⟨0, 26, 29, 13⟩, ⟨0, 26, 33, 15⟩] ⟨0, 26, 37, 17⟩ [] (htab.trans rfl) (List.forall_mem_cons.mpr ⟨Or.inr ⟨by decide, "java/lang/IndexOutOfBoundsException", (hts _ (List.mem_of_getElem? (i := 1) rfl)), hN.1 _ (List.mem_of_getElem? (i := 1) rfl)⟩, (List.forall_mem_cons.mpr ⟨Or.inr ⟨by decide, "java/lang/IllegalArgumentException", (hts _ (List.mem_of_getElem? (i := 2) rfl)), hN.1 _ (List.mem_of_getElem? (i := 2) rfl)⟩, (fun _ h => absurd h List.not_mem_nil)⟩)⟩) (by decide) (by decide) (hts _ (List.mem_of_getElem? (i := 3) rfl)) (va_Yc.word (hN.2 _ (List.mem_of_getElem? (i := 2) rfl))) h1 h2 h3 k9) (fun u q9 H locs hq2 hP hD hS => ?_)
  obtain ⟨DF_1, hu9⟩ : ∃ z, z = u := ⟨_, rfl⟩
  subst hu9
  refine W.widen (k := 1) (n := 6) (Nat.le_of_ble_eq_true rfl) (Nat.le_of_ble_eq_true rfl) ?_
  have hP : va_P D cls [(ou, .inl (T 3, 1, .inr (.inl o))), (lo, .inr (2, [.ref ra, .ref d0, .ref b0, .ref t0, .ref r0])), (ra, .inl (T 2, 6, .inr (.inr (.inr (.inr (fun j => some (rd j))))))), (rd i, .inr (0, [.ref q0, .int (nI n)])), (q0, .inl (T 0, 440, .inl f)), (d0, .inr (0, [.ref dq, .int (nI m9)])), (dq, .inl (T 0, 440, .inl DF_1))] H := hP
  have hD : va_D A [(ou, .inl (T 3, 1, .inr (.inl o))), (lo, .inr (2, [.ref ra, .ref d0, .ref b0, .ref t0, .ref r0])), (ra, .inl (T 2, 6, .inr (.inr (.inr (.inr (fun j => some (rd j))))))), (rd i, .inr (0, [.ref q0, .int (nI n)])), (q0, .inl (T 0, 440, .inl f)), (d0, .inr (0, [.ref dq, .int (nI m9)])), (dq, .inl (T 0, 440, .inl DF_1))] := hD
  refine lv_astore (lv' := [(12, .ref q9), (0, .ref lo), (1, .int (nI i)), (2, .int (nI m9)), (3, .int y0), (4, .int y1), (5, .int y2), (6, .int y3), (7, .int y4), (8, .int y5), (9, .int y6), (10, .int y7), (11, .ref ou)]) hx hb dL_addMore_37 hl (by decide) rfl (fun ls hl => ?_)
  refine lv_iconst (v := (nI 3)) hx hb dL_addMore_39 (by decide +kernel) ?_
  have hP9 := hP.sub (ws' := [(lo, .inr (2, [.ref ra, .ref d0, .ref b0, .ref t0, .ref r0])), (ra, .inl (T 2, 6, .inr (.inr (.inr (.inr (fun j => some (rd j))))))), (rd i, .inr (0, [.ref q0, .int (nI n)])), (q0, .inl (T 0, 440, .inl f)), (d0, .inr (0, [.ref dq, .int (nI m9)])), (dq, .inl (T 0, 440, .inl DF_1)), (ou, .inl (T 3, 1, .inr (.inl o)))]) [1, 2, 3, 4, 5, 6, 0] rfl
  have hD9 := hD.sub (ws' := [(lo, .inr (2, [.ref ra, .ref d0, .ref b0, .ref t0, .ref r0])), (ra, .inl (T 2, 6, .inr (.inr (.inr (.inr (fun j => some (rd j))))))), (rd i, .inr (0, [.ref q0, .int (nI n)])), (q0, .inl (T 0, 440, .inl f)), (d0, .inr (0, [.ref dq, .int (nI m9)])), (dq, .inl (T 0, 440, .inl DF_1)), (ou, .inl (T 3, 1, .inr (.inl o)))]) [1, 2, 3, 4, 5, 6, 0] (by decide) rfl
  refine W.widen (k := 5) (n := 1106) (by omega) (by omega) ?_
  exact W.iret (v := (nI 3)) hx hb hr (fun t ht hW => ⟨⟨DF_1, rfl, trivial, (by rw [ht]; exact hP9), va_K.moved hW.alike hK, hD9⟩, hS.F ht⟩) hS.2.2 dL_addMore_40
set_option maxHeartbeats 4000000 in
set_option maxRecDepth 100000 in
theorem h_addMore (l : Launch) (D : va_G) (T : Nat → ClassId) (g : Nat → Nat) (sz : Nat) (lo : Nat) (ra : Nat) (d0 : Nat) (b0 : Nat) (t0 : Nat) (r0 : Nat) (rd : Nat → Nat) (dq : Nat) (df : Nat → Int32) (dn : Nat) (i : Nat) (q0 : Nat) (f : Nat → Int32) (n : Nat) (b : Nat → Nat) (hb9 : RB f n b) (hi : i < 6) (m9 : Nat) (hm : 1 ≤ m9 ∧ m9 ≤ 8) (v : Nat → Nat) (y0 : Int32) (y1 : Int32) (y2 : Int32) (y3 : Int32) (y4 : Int32) (y5 : Int32) (y6 : Int32) (y7 : Int32) (hgd : ∀ j, j < m9 → (gvN y0 y1 y2 y3 y4 y5 y6 y7) j = nI (v j) ∧ v j < 256) (hn : n + m9 ≤ 320) (ou : Nat) (o : Nat → Int64) : MUN l yL_addMore wsL_addMore ({ frames := 80, cells := 5, slots := 1106, locals := 4000 } : Room) D T g [.ref lo, .int (nI i), .int (nI m9), .int y0, .int y1, .int y2, .int y3, .int y4, .int y5, .int y6, .int y7, .ref ou] [(lo, .inr (2, [.ref ra, .ref d0, .ref b0, .ref t0, .ref r0])), (ra, .inl (T 2, 6, .inr (.inr (.inr (.inr (fun j => some (rd j))))))), (rd i, .inr (0, [.ref q0, .int (nI n)])), (q0, .inl (T 0, 440, .inl f)), (d0, .inr (0, [.ref dq, .int (nI dn)])), (dq, .inl (T 0, 440, .inl df)), (ou, .inl (T 3, 1, .inr (.inl o)))] sz (fun u : (Nat → Int32) × (Nat → Int32) => some (.int (nI 0))) (fun u : (Nat → Int32) × (Nat → Int32) => RB u.1 (n + m9) (catN b n v)) (fun u : (Nat → Int32) × (Nat → Int32) => [(lo, .inr (2, [.ref ra, .ref d0, .ref b0, .ref t0, .ref r0])), (ra, .inl (T 2, 6, .inr (.inr (.inr (.inr (fun j => some (rd j))))))), (rd i, .inr (0, [.ref q0, .int (nI (n + m9))])), (q0, .inl (T 0, 440, .inl u.1)), (d0, .inr (0, [.ref dq, .int (nI m9)])), (dq, .inl (T 0, 440, .inl u.2)), (ou, .inl (T 3, 1, .inr (.inl (vp_updL o 0 (lN (n + m9))))))]) 5 1106 := by
  refine va_MetW (hh := [(0, 26, 29, 13), (0, 26, 33, 15), (0, 26, 37, 17)]) (cc := cL_addMore) (maxL := 13) (ret := (some .int)) (by decide) rfl ?_
  intro p e s m args below meth c s₁ B hml hv
  obtain ⟨rfl, ⟨hsz, hP, hK, hD0, hG⟩, hN⟩ := hv
  have hx := B.exec
  have hb := B.bytes
  have hr := B.returns
  have hts := atoms_spec (ws := wsL_addMore) B.pre
  have hown : s.vm.findClass RL = some m.cls := findClass_of_methodNamed B.named
  have hlocks := B.notSynchronized
  have htab : c.exceptionTable.toList = tableOf [(0, 26, 29, 13), (0, 26, 33, 15), (0, 26, 37, 17)] := vx_table (x := yL_add) B (hts _ (List.mem_of_getElem? (i := 0) rfl))
  subst hsz
  have hD := hD0.self (sz := s.heap.size)
  generalize hAe : va_A [(lo, .inr (2, [.ref ra, .ref d0, .ref b0, .ref t0, .ref r0])), (ra, .inl (T 2, 6, .inr (.inr (.inr (.inr (fun j => some (rd j))))))), (rd i, .inr (0, [.ref q0, .int (nI n)])), (q0, .inl (T 0, 440, .inl f)), (d0, .inr (0, [.ref dq, .int (nI dn)])), (dq, .inl (T 0, 440, .inl df)), (ou, .inl (T 3, 1, .inr (.inl o)))] s.heap.size = A at hD hG ⊢
  have hA : ∀ q : Nat, s.heap.size ≤ q → A q := fun q h => by rw [← hAe]; exact Or.inr h
  have hS : va_S A s.heap s.heap [] := va_S.rf
  have hP : va_P D cls [(lo, .inr (2, [.ref ra, .ref d0, .ref b0, .ref t0, .ref r0])), (ra, .inl (T 2, 6, .inr (.inr (.inr (.inr (fun j => some (rd j))))))), (rd i, .inr (0, [.ref q0, .int (nI n)])), (q0, .inl (T 0, 440, .inl f)), (d0, .inr (0, [.ref dq, .int (nI dn)])), (dq, .inl (T 0, 440, .inl df)), (ou, .inl (T 3, 1, .inr (.inl o)))] s.heap := hP
  have hl := lv_entry ([.ref lo, .int (nI i), .int (nI m9), .int y0, .int y1, .int y2, .int y3, .int y4, .int y5, .int y6, .int y7, .ref ou]) (n := 13) (Nat.le_of_ble_eq_true rfl)
  rw [lg_entry_eq]
  generalize (lg_sl ([.ref lo, .int (nI i), .int (nI m9), .int y0, .int y1, .int y2, .int y3, .int y4, .int y5, .int y6, .int y7, .ref ou]) ++ List.replicate (13 - (lg_sl ([.ref lo, .int (nI i), .int (nI m9), .int y0, .int y1, .int y2, .int y3, .int y4, .int y5, .int y6, .int y7, .ref ou])).length) Slot.unset).toArray = ls at hl ⊢
  have hl : lv_has ls 13 [(0, .ref lo), (1, .int (nI i)), (2, .int (nI m9)), (3, .int y0), (4, .int y1), (5, .int y2), (6, .int y3), (7, .int y4), (8, .int y5), (9, .int y6), (10, .int y7), (11, .ref ou)] := hl
  refine lv_aload hx hb dL_addMore_0 (lv_at hl 11 rfl) ?_
  refine lv_iconst (v := (nI 0)) hx hb dL_addMore_2 (by decide +kernel) ?_
  refine lv_aload_n hx hb dL_addMore_3 rfl (lv_at hl 0 rfl) ?_
  refine lv_iload_n hx hb dL_addMore_4 rfl (lv_at hl 1 rfl) ?_
  refine lv_iload_n hx hb dL_addMore_5 rfl (lv_at hl 2 rfl) ?_
  refine lv_iload_n hx hb dL_addMore_6 rfl (lv_at hl 3 rfl) ?_
  refine lv_iload hx hb dL_addMore_7 (lv_at hl 4 rfl) ?_
  refine lv_iload hx hb dL_addMore_9 (lv_at hl 5 rfl) ?_
  refine lv_iload hx hb dL_addMore_11 (lv_at hl 6 rfl) ?_
  refine lv_iload hx hb dL_addMore_13 (lv_at hl 7 rfl) ?_
  refine lv_iload hx hb dL_addMore_15 (lv_at hl 8 rfl) ?_
  refine lv_iload hx hb dL_addMore_17 (lv_at hl 9 rfl) ?_
  refine lv_iload hx hb dL_addMore_19 (lv_at hl 10 rfl) ?_
  refine mu_V (As := [.int (nI i), .int (nI m9), .int y0, .int y1, .int y2, .int y3, .int y4, .int y5, .int y6, .int y7]) (rest := [.int (nI 0), .ref ou]) (wc := [(lo, .inr (2, [.ref ra, .ref d0, .ref b0, .ref t0, .ref r0])), (ra, .inl (T 2, 6, .inr (.inr (.inr (.inr (fun j => some (rd j))))))), (rd i, .inr (0, [.ref q0, .int (nI n)])), (q0, .inl (T 0, 440, .inl f)), (d0, .inr (0, [.ref dq, .int (nI dn)])), (dq, .inl (T 0, 440, .inl df))]) (wr := [(ou, .inl (T 3, 1, .inr (.inl o)))]) ⟨hx, hb, hml, hown, hts⟩ (c_addMore l D T g s.heap.size lo ra d0 b0 t0 r0 rd dq df dn i q0 f n b (hb9) (hi) m9 (hm) v y0 y1 y2 y3 y4 y5 y6 y7 (hgd) (hn)) (cwV 10 hts gL_addMore_X5_addMore rfl rfl rfl (by decide +kernel) ⟨Nat.le_of_ble_eq_true rfl, Nat.le_of_ble_eq_true rfl⟩) (va_recv hK hP (ci := 2) (q0 := 0) rfl rfl) hP hD hK hG hS hA [0, 1, 2, 3, 4, 5] [6] rfl (by decide) rfl (by decide) (by decide) ⟨Nat.le_of_ble_eq_true rfl, Nat.le_of_ble_eq_true rfl⟩ rfl hl.1 (Nat.le_of_ble_eq_true rfl) dL_addMore_21 rfl (fun u H locs hq3 hP hD hS => ?_)
  obtain ⟨F_1, DF_2⟩ := u
  have hP : va_P D cls [(ou, .inl (T 3, 1, .inr (.inl o))), (lo, .inr (2, [.ref ra, .ref d0, .ref b0, .ref t0, .ref r0])), (ra, .inl (T 2, 6, .inr (.inr (.inr (.inr (fun j => some (rd j))))))), (rd i, .inr (0, [.ref q0, .int (nI (n + m9))])), (q0, .inl (T 0, 440, .inl F_1)), (d0, .inr (0, [.ref dq, .int (nI m9)])), (dq, .inl (T 0, 440, .inl DF_2))] H := hP
  have hD : va_D A [(ou, .inl (T 3, 1, .inr (.inl o))), (lo, .inr (2, [.ref ra, .ref d0, .ref b0, .ref t0, .ref r0])), (ra, .inl (T 2, 6, .inr (.inr (.inr (.inr (fun j => some (rd j))))))), (rd i, .inr (0, [.ref q0, .int (nI (n + m9))])), (q0, .inl (T 0, 440, .inl F_1)), (d0, .inr (0, [.ref dq, .int (nI m9)])), (dq, .inl (T 0, 440, .inl DF_2))] := hD
  have hp1 : RB F_1 (n + m9) (catN b n v) := hq3
  refine W.eq (g2 := F0 m 24 ls [.int (nI (n + m9)), .int (nI 0), .ref ou]) rfl ?_
  refine lv_i2l hx hb dL_addMore_24 (v := lN (n + m9)) (nI_l (by omega)) ?_
  refine va_last hx hb hK hP hD hS 0 3 rfl rfl (vp_in_nI (by omega) (by omega)) dL_addMore_25 (fun H locs hP hD hS => ?_)
  rw [nI_clamp (by omega)] at hP hD
  have hP : va_P D cls [(ou, .inl (T 3, 1, .inr (.inl (vp_updL o 0 (lN (n + m9)))))), (lo, .inr (2, [.ref ra, .ref d0, .ref b0, .ref t0, .ref r0])), (ra, .inl (T 2, 6, .inr (.inr (.inr (.inr (fun j => some (rd j))))))), (rd i, .inr (0, [.ref q0, .int (nI (n + m9))])), (q0, .inl (T 0, 440, .inl F_1)), (d0, .inr (0, [.ref dq, .int (nI m9)])), (dq, .inl (T 0, 440, .inl DF_2))] H := hP
  have hD : va_D A [(ou, .inl (T 3, 1, .inr (.inl (vp_updL o 0 (lN (n + m9)))))), (lo, .inr (2, [.ref ra, .ref d0, .ref b0, .ref t0, .ref r0])), (ra, .inl (T 2, 6, .inr (.inr (.inr (.inr (fun j => some (rd j))))))), (rd i, .inr (0, [.ref q0, .int (nI (n + m9))])), (q0, .inl (T 0, 440, .inl F_1)), (d0, .inr (0, [.ref dq, .int (nI m9)])), (dq, .inl (T 0, 440, .inl DF_2))] := hD
  refine lv_goto (tgt := 41) hx hb dL_addMore_26 (by decide) ?_
  refine lv_iconst (v := (nI 0)) hx hb dL_addMore_41 (by decide +kernel) ?_
  have hP9 := hP.sub (ws' := [(lo, .inr (2, [.ref ra, .ref d0, .ref b0, .ref t0, .ref r0])), (ra, .inl (T 2, 6, .inr (.inr (.inr (.inr (fun j => some (rd j))))))), (rd i, .inr (0, [.ref q0, .int (nI (n + m9))])), (q0, .inl (T 0, 440, .inl F_1)), (d0, .inr (0, [.ref dq, .int (nI m9)])), (dq, .inl (T 0, 440, .inl DF_2)), (ou, .inl (T 3, 1, .inr (.inl (vp_updL o 0 (lN (n + m9))))))]) [1, 2, 3, 4, 5, 6, 0] rfl
  have hD9 := hD.sub (ws' := [(lo, .inr (2, [.ref ra, .ref d0, .ref b0, .ref t0, .ref r0])), (ra, .inl (T 2, 6, .inr (.inr (.inr (.inr (fun j => some (rd j))))))), (rd i, .inr (0, [.ref q0, .int (nI (n + m9))])), (q0, .inl (T 0, 440, .inl F_1)), (d0, .inr (0, [.ref dq, .int (nI m9)])), (dq, .inl (T 0, 440, .inl DF_2)), (ou, .inl (T 3, 1, .inr (.inl (vp_updL o 0 (lN (n + m9))))))]) [1, 2, 3, 4, 5, 6, 0] (by decide) rfl
  refine W.widen (k := 5) (n := 1106) (by omega) (by omega) ?_
  exact W.iret (v := (nI 0)) hx hb hr (fun t ht hW => ⟨⟨(F_1, DF_2), rfl, show RB F_1 (n + m9) (catN b n v) from hp1, (by rw [ht]; exact hP9), va_K.moved hW.alike hK, hD9⟩, hS.F ht⟩) hS.2.2 dL_addMore_42
