set_option maxHeartbeats 4000000 in
set_option maxRecDepth 100000 in
theorem h_get (l : Launch) (D : va_G) (T : Nat → ClassId) (g : Nat → Nat) (sz : Nat) (lo : Nat) (ra : Nat) (d0 : Nat) (b0 : Nat) (t0 : Nat) (r0 : Nat) (rd : Nat → Nat) (i : Nat) (q0 : Nat) (f : Nat → Int32) (n : Nat) (b : Nat → Nat) (hb9 : RB f n b) (p9 : Nat) (hi : i < 6) (hp : p9 < n) (ou : Nat) (o : Nat → Int64) : MUN l yL_get wsL_get ({ frames := 80, cells := 5, slots := 1106, locals := 4000 } : Room) D T g [.ref lo, .int (nI i), .int (nI p9), .ref ou] [(lo, .inr (2, [.ref ra, .ref d0, .ref b0, .ref t0, .ref r0])), (ra, .inl (T 2, 6, .inr (.inr (.inr (.inr (fun j => some (rd j))))))), (rd i, .inr (0, [.ref q0, .int (nI n)])), (q0, .inl (T 0, 440, .inl f)), (ou, .inl (T 3, 1, .inr (.inl o)))] sz (fun u : Unit => some (.int (nI 0))) (fun u : Unit => True) (fun u : Unit => [(lo, .inr (2, [.ref ra, .ref d0, .ref b0, .ref t0, .ref r0])), (ra, .inl (T 2, 6, .inr (.inr (.inr (.inr (fun j => some (rd j))))))), (rd i, .inr (0, [.ref q0, .int (nI n)])), (q0, .inl (T 0, 440, .inl f)), (ou, .inl (T 3, 1, .inr (.inl (vp_updL o 0 (lN (b p9))))))]) 5 1106 := by
  refine va_MetW (hh := [(0, 10, 13, 13)]) (cc := cL_get) (maxL := 5) (ret := (some .int)) (by decide) rfl ?_
  intro p e s m args below meth c s₁ B hml hv
  obtain ⟨rfl, ⟨hsz, hP, hK, hD0, hG⟩, hN⟩ := hv
  have hx := B.exec
  have hb := B.bytes
  have hr := B.returns
  have hts := atoms_spec (ws := wsL_get) B.pre
  have hown : s.vm.findClass RL = some m.cls := findClass_of_methodNamed B.named
  have hlocks := B.notSynchronized
  have htab : c.exceptionTable.toList = tableOf [(0, 10, 13, 13)] := vx_table (x := yL_add) B (hts _ (List.mem_of_getElem? (i := 0) rfl))
  subst hsz
  have hD := hD0.self (sz := s.heap.size)
  generalize hAe : va_A [(lo, .inr (2, [.ref ra, .ref d0, .ref b0, .ref t0, .ref r0])), (ra, .inl (T 2, 6, .inr (.inr (.inr (.inr (fun j => some (rd j))))))), (rd i, .inr (0, [.ref q0, .int (nI n)])), (q0, .inl (T 0, 440, .inl f)), (ou, .inl (T 3, 1, .inr (.inl o)))] s.heap.size = A at hD hG ⊢
  have hA : ∀ q : Nat, s.heap.size ≤ q → A q := fun q h => by rw [← hAe]; exact Or.inr h
  have hS : va_S A s.heap s.heap [] := va_S.rf
  have hP : va_P D cls [(lo, .inr (2, [.ref ra, .ref d0, .ref b0, .ref t0, .ref r0])), (ra, .inl (T 2, 6, .inr (.inr (.inr (.inr (fun j => some (rd j))))))), (rd i, .inr (0, [.ref q0, .int (nI n)])), (q0, .inl (T 0, 440, .inl f)), (ou, .inl (T 3, 1, .inr (.inl o)))] s.heap := hP
  have hl := lv_entry ([.ref lo, .int (nI i), .int (nI p9), .ref ou]) (n := 5) (Nat.le_of_ble_eq_true rfl)
  rw [lg_entry_eq]
  generalize (lg_sl ([.ref lo, .int (nI i), .int (nI p9), .ref ou]) ++ List.replicate (5 - (lg_sl ([.ref lo, .int (nI i), .int (nI p9), .ref ou])).length) Slot.unset).toArray = ls at hl ⊢
  have hl : lv_has ls 5 [(0, .ref lo), (1, .int (nI i)), (2, .int (nI p9)), (3, .ref ou)] := hl
  have hx9 := (hb9.2 p9 hp).2
  refine lv_aload_n hx hb dL_get_0 rfl (lv_at hl 3 rfl) ?_
  refine lv_iconst (v := (nI 0)) hx hb dL_get_1 (by decide +kernel) ?_
  refine lv_aload_n hx hb dL_get_2 rfl (lv_at hl 0 rfl) ?_
  refine lv_iload_n hx hb dL_get_3 rfl (lv_at hl 1 rfl) ?_
  refine lv_iload_n hx hb dL_get_4 rfl (lv_at hl 2 rfl) ?_
  refine ro_V (As := [.int (nI i), .int (nI p9)]) (rest := [.int (nI 0), .ref ou]) (wc := [(lo, .inr (2, [.ref ra, .ref d0, .ref b0, .ref t0, .ref r0])), (ra, .inl (T 2, 6, .inr (.inr (.inr (.inr (fun j => some (rd j))))))), (rd i, .inr (0, [.ref q0, .int (nI n)])), (q0, .inl (T 0, 440, .inl f))]) (r := .int (nI (b p9))) ⟨hx, hb, hml, hown, hts⟩ (c_get l D T g lo ra d0 b0 t0 r0 rd i q0 f n b (hb9) p9 (hi) (hp)) (cwV 2 hts gL_get_X5_get rfl rfl rfl (by decide +kernel) ⟨Nat.le_of_ble_eq_true rfl, Nat.le_of_ble_eq_true rfl⟩) (va_recv hK hP (ci := 2) (q0 := 0) rfl rfl) hP hK hG hS [0, 1, 2, 3] rfl ⟨Nat.zero_le _, Nat.zero_le _⟩ rfl hl.1 (Nat.le_of_ble_eq_true rfl) dL_get_5 rfl ?_
  refine lv_i2l hx hb dL_get_8 (v := lN (b p9)) (nI_l (by omega)) ?_
  refine va_last hx hb hK hP hD hS 4 3 rfl rfl (vp_in_nI (by omega) (by omega)) dL_get_9 (fun H locs hP hD hS => ?_)
  rw [nI_clamp (by omega)] at hP hD
  have hP : va_P D cls [(lo, .inr (2, [.ref ra, .ref d0, .ref b0, .ref t0, .ref r0])), (ra, .inl (T 2, 6, .inr (.inr (.inr (.inr (fun j => some (rd j))))))), (rd i, .inr (0, [.ref q0, .int (nI n)])), (q0, .inl (T 0, 440, .inl f)), (ou, .inl (T 3, 1, .inr (.inl (vp_updL o 0 (lN (b p9))))))] H := hP
  have hD : va_D A [(lo, .inr (2, [.ref ra, .ref d0, .ref b0, .ref t0, .ref r0])), (ra, .inl (T 2, 6, .inr (.inr (.inr (.inr (fun j => some (rd j))))))), (rd i, .inr (0, [.ref q0, .int (nI n)])), (q0, .inl (T 0, 440, .inl f)), (ou, .inl (T 3, 1, .inr (.inl (vp_updL o 0 (lN (b p9))))))] := hD
  refine lv_goto (tgt := 17) hx hb dL_get_10 (by decide) ?_
  refine lv_iconst (v := (nI 0)) hx hb dL_get_17 (by decide +kernel) ?_
  have hP9 := hP.sub (ws' := [(lo, .inr (2, [.ref ra, .ref d0, .ref b0, .ref t0, .ref r0])), (ra, .inl (T 2, 6, .inr (.inr (.inr (.inr (fun j => some (rd j))))))), (rd i, .inr (0, [.ref q0, .int (nI n)])), (q0, .inl (T 0, 440, .inl f)), (ou, .inl (T 3, 1, .inr (.inl (vp_updL o 0 (lN (b p9))))))]) [0, 1, 2, 3, 4] rfl
  have hD9 := hD.sub (ws' := [(lo, .inr (2, [.ref ra, .ref d0, .ref b0, .ref t0, .ref r0])), (ra, .inl (T 2, 6, .inr (.inr (.inr (.inr (fun j => some (rd j))))))), (rd i, .inr (0, [.ref q0, .int (nI n)])), (q0, .inl (T 0, 440, .inl f)), (ou, .inl (T 3, 1, .inr (.inl (vp_updL o 0 (lN (b p9))))))]) [0, 1, 2, 3, 4] (by decide) rfl
  refine W.widen (k := 5) (n := 1106) (by omega) (by omega) ?_
  exact W.iret (v := (nI 0)) hx hb hr (fun t ht hW => ⟨⟨(), rfl, trivial, (by rw [ht]; exact hP9), va_K.moved hW.alike hK, hD9⟩, hS.F ht⟩) hS.2.2 dL_get_18
set_option maxHeartbeats 4000000 in
set_option maxRecDepth 100000 in
theorem h_copy_x1 (l : Launch) (D : va_G) (T : Nat → ClassId) (g : Nat → Nat) (sz : Nat) (hl9 : l.stackTraces = false) (lo : Nat) (ra : Nat) (d0 : Nat) (b0 : Nat) (t0 : Nat) (r0 : Nat) (rd : Nat → Nat) (i : Int32) (hi : i < 0 ∨ ¬ i < nI 6) (x0 : Int32) (ou : Nat) (o : Nat → Int64) : MUN l yL_copy wsL_copy ({ frames := 80, cells := 5, slots := 1106, locals := 4000 } : Room) D T g [.ref lo, .int i, .int x0, .ref ou] [(lo, .inr (2, [.ref ra, .ref d0, .ref b0, .ref t0, .ref r0])), (ra, .inl (T 2, 6, .inr (.inr (.inr (.inr (fun j => some (rd j))))))), (ou, .inl (T 3, 1, .inr (.inl o)))] sz (fun u : Unit => some (.int (nI 1))) (fun u : Unit => True) (fun u : Unit => [(lo, .inr (2, [.ref ra, .ref d0, .ref b0, .ref t0, .ref r0])), (ra, .inl (T 2, 6, .inr (.inr (.inr (.inr (fun j => some (rd j))))))), (ou, .inl (T 3, 1, .inr (.inl o)))]) 5 1106 := by
  refine va_MetW (hh := [(0, 10, 13, 13)]) (cc := cL_copy) (maxL := 5) (ret := (some .int)) (by decide) rfl ?_
  intro p e s m args below meth c s₁ B hml hv
  obtain ⟨rfl, ⟨hsz, hP, hK, hD0, hG⟩, hN⟩ := hv
  have hx := B.exec
  have hb := B.bytes
  have hr := B.returns
  have hts := atoms_spec (ws := wsL_copy) B.pre
  have hown : s.vm.findClass RL = some m.cls := findClass_of_methodNamed B.named
  have hlocks := B.notSynchronized
  have htab : c.exceptionTable.toList = tableOf [(0, 10, 13, 13)] := vx_table (x := yL_add) B (hts _ (List.mem_of_getElem? (i := 0) rfl))
  subst hsz
  have hD := hD0.self (sz := s.heap.size)
  generalize hAe : va_A [(lo, .inr (2, [.ref ra, .ref d0, .ref b0, .ref t0, .ref r0])), (ra, .inl (T 2, 6, .inr (.inr (.inr (.inr (fun j => some (rd j))))))), (ou, .inl (T 3, 1, .inr (.inl o)))] s.heap.size = A at hD hG ⊢
  have hA : ∀ q : Nat, s.heap.size ≤ q → A q := fun q h => by rw [← hAe]; exact Or.inr h
  have hS : va_S A s.heap s.heap [] := va_S.rf
  have hP : va_P D cls [(lo, .inr (2, [.ref ra, .ref d0, .ref b0, .ref t0, .ref r0])), (ra, .inl (T 2, 6, .inr (.inr (.inr (.inr (fun j => some (rd j))))))), (ou, .inl (T 3, 1, .inr (.inl o)))] s.heap := hP
  have hl := lv_entry ([.ref lo, .int i, .int x0, .ref ou]) (n := 5) (Nat.le_of_ble_eq_true rfl)
  rw [lg_entry_eq]
  generalize (lg_sl ([.ref lo, .int i, .int x0, .ref ou]) ++ List.replicate (5 - (lg_sl ([.ref lo, .int i, .int x0, .ref ou])).length) Slot.unset).toArray = ls at hl ⊢
  have hl : lv_has ls 5 [(0, .ref lo), (1, .int i), (2, .int x0), (3, .ref ou)] := hl
  refine lv_aload_n hx hb dL_copy_0 rfl (lv_at hl 3 rfl) ?_
  refine lv_iconst (v := (nI 0)) hx hb dL_copy_1 (by decide +kernel) ?_
  refine lv_aload_n hx hb dL_copy_2 rfl (lv_at hl 0 rfl) ?_
  refine lv_iload_n hx hb dL_copy_3 rfl (lv_at hl 1 rfl) ?_
  refine lv_iload_n hx hb dL_copy_4 rfl (lv_at hl 2 rfl) ?_
  refine tc_V (hpc := 13) (As := [.int i, .int x0]) (rest := [.int (nI 0), .ref ou]) (wc := [(lo, .inr (2, [.ref ra, .ref d0, .ref b0, .ref t0, .ref r0])), (ra, .inl (T 2, 6, .inr (.inr (.inr (.inr (fun j => some (rd j)))))))]) (wr := [(ou, .inl (T 3, 1, .inr (.inl o)))]) ⟨hx, hb, hml, hown, hts⟩ (c_copy_x1 l D T g s.heap.size (hl9) lo ra d0 b0 t0 r0 rd i (hi) x0) (cwV 2 hts gL_copy_X5_copy rfl rfl rfl (by decide +kernel) ⟨Nat.le_of_ble_eq_true rfl, Nat.le_of_ble_eq_true rfl⟩) (va_recv hK hP (ci := 2) (q0 := 0) rfl rfl) hP hD hK hG hS hA [0, 1] [2] rfl (by decide) rfl (by decide) (by decide) ⟨Nat.le_of_ble_eq_true rfl, Nat.le_of_ble_eq_true rfl⟩ rfl hl.1 (Nat.le_of_ble_eq_true rfl) dL_copy_5 rfl (fun H1 locs1 q9 ce h1 h2 h3 k9 => vx_catch (name := "java/lang/IndexOutOfBoundsException") hown [] ⟨0, 10, 13, 13⟩ [] (htab.trans rfl) (fun _ h => absurd h List.not_mem_nil) (by decide) (by decide) (hts _ (List.mem_of_getElem? (i := 1) rfl)) (va_Yc.word (hN.2 _ (List.mem_of_getElem? (i := 0) rfl))) h1 h2 h3 k9) (fun u q9 H locs hq1 hP hD hS => ?_)
  refine W.widen (k := 1) (n := 6) (Nat.le_of_ble_eq_true rfl) (Nat.le_of_ble_eq_true rfl) ?_
  have hP : va_P D cls [(ou, .inl (T 3, 1, .inr (.inl o))), (lo, .inr (2, [.ref ra, .ref d0, .ref b0, .ref t0, .ref r0])), (ra, .inl (T 2, 6, .inr (.inr (.inr (.inr (fun j => some (rd j)))))))] H := hP
  have hD : va_D A [(ou, .inl (T 3, 1, .inr (.inl o))), (lo, .inr (2, [.ref ra, .ref d0, .ref b0, .ref t0, .ref r0])), (ra, .inl (T 2, 6, .inr (.inr (.inr (.inr (fun j => some (rd j)))))))] := hD
  refine lv_astore (lv' := [(4, .ref q9), (0, .ref lo), (1, .int i), (2, .int x0), (3, .ref ou)]) hx hb dL_copy_13 hl (by decide) rfl (fun ls hl => ?_)
  refine lv_iconst (v := (nI 1)) hx hb dL_copy_15 (by decide +kernel) ?_
  have hP9 := hP.sub (ws' := [(lo, .inr (2, [.ref ra, .ref d0, .ref b0, .ref t0, .ref r0])), (ra, .inl (T 2, 6, .inr (.inr (.inr (.inr (fun j => some (rd j))))))), (ou, .inl (T 3, 1, .inr (.inl o)))]) [1, 2, 0] rfl
  have hD9 := hD.sub (ws' := [(lo, .inr (2, [.ref ra, .ref d0, .ref b0, .ref t0, .ref r0])), (ra, .inl (T 2, 6, .inr (.inr (.inr (.inr (fun j => some (rd j))))))), (ou, .inl (T 3, 1, .inr (.inl o)))]) [1, 2, 0] (by decide) rfl
  refine W.widen (k := 5) (n := 1106) (by omega) (by omega) ?_
  exact W.iret (v := (nI 1)) hx hb hr (fun t ht hW => ⟨⟨(), rfl, trivial, (by rw [ht]; exact hP9), va_K.moved hW.alike hK, hD9⟩, hS.F ht⟩) hS.2.2 dL_copy_16
set_option maxHeartbeats 4000000 in
set_option maxRecDepth 100000 in
theorem h_copy_x2 (l : Launch) (D : va_G) (T : Nat → ClassId) (g : Nat → Nat) (sz : Nat) (hl9 : l.stackTraces = false) (lo : Nat) (ra : Nat) (d0 : Nat) (b0 : Nat) (t0 : Nat) (r0 : Nat) (rd : Nat → Nat) (i : Nat) (hi : i < 6) (j : Int32) (hj : j < 0 ∨ ¬ j < nI 6) (ou : Nat) (o : Nat → Int64) : MUN l yL_copy wsL_copy ({ frames := 80, cells := 5, slots := 1106, locals := 4000 } : Room) D T g [.ref lo, .int (nI i), .int j, .ref ou] [(lo, .inr (2, [.ref ra, .ref d0, .ref b0, .ref t0, .ref r0])), (ra, .inl (T 2, 6, .inr (.inr (.inr (.inr (fun j => some (rd j))))))), (ou, .inl (T 3, 1, .inr (.inl o)))] sz (fun u : Unit => some (.int (nI 1))) (fun u : Unit => True) (fun u : Unit => [(lo, .inr (2, [.ref ra, .ref d0, .ref b0, .ref t0, .ref r0])), (ra, .inl (T 2, 6, .inr (.inr (.inr (.inr (fun j => some (rd j))))))), (ou, .inl (T 3, 1, .inr (.inl o)))]) 5 1106 := by
  refine va_MetW (hh := [(0, 10, 13, 13)]) (cc := cL_copy) (maxL := 5) (ret := (some .int)) (by decide) rfl ?_
  intro p e s m args below meth c s₁ B hml hv
  obtain ⟨rfl, ⟨hsz, hP, hK, hD0, hG⟩, hN⟩ := hv
  have hx := B.exec
  have hb := B.bytes
  have hr := B.returns
  have hts := atoms_spec (ws := wsL_copy) B.pre
  have hown : s.vm.findClass RL = some m.cls := findClass_of_methodNamed B.named
  have hlocks := B.notSynchronized
  have htab : c.exceptionTable.toList = tableOf [(0, 10, 13, 13)] := vx_table (x := yL_add) B (hts _ (List.mem_of_getElem? (i := 0) rfl))
  subst hsz
  have hD := hD0.self (sz := s.heap.size)
  generalize hAe : va_A [(lo, .inr (2, [.ref ra, .ref d0, .ref b0, .ref t0, .ref r0])), (ra, .inl (T 2, 6, .inr (.inr (.inr (.inr (fun j => some (rd j))))))), (ou, .inl (T 3, 1, .inr (.inl o)))] s.heap.size = A at hD hG ⊢
  have hA : ∀ q : Nat, s.heap.size ≤ q → A q := fun q h => by rw [← hAe]; exact Or.inr h
  have hS : va_S A s.heap s.heap [] := va_S.rf
  have hP : va_P D cls [(lo, .inr (2, [.ref ra, .ref d0, .ref b0, .ref t0, .ref r0])), (ra, .inl (T 2, 6, .inr (.inr (.inr (.inr (fun j => some (rd j))))))), (ou, .inl (T 3, 1, .inr (.inl o)))] s.heap := hP
  have hl := lv_entry ([.ref lo, .int (nI i), .int j, .ref ou]) (n := 5) (Nat.le_of_ble_eq_true rfl)
  rw [lg_entry_eq]
  generalize (lg_sl ([.ref lo, .int (nI i), .int j, .ref ou]) ++ List.replicate (5 - (lg_sl ([.ref lo, .int (nI i), .int j, .ref ou])).length) Slot.unset).toArray = ls at hl ⊢
  have hl : lv_has ls 5 [(0, .ref lo), (1, .int (nI i)), (2, .int j), (3, .ref ou)] := hl
  refine lv_aload_n hx hb dL_copy_0 rfl (lv_at hl 3 rfl) ?_
  refine lv_iconst (v := (nI 0)) hx hb dL_copy_1 (by decide +kernel) ?_
  refine lv_aload_n hx hb dL_copy_2 rfl (lv_at hl 0 rfl) ?_
  refine lv_iload_n hx hb dL_copy_3 rfl (lv_at hl 1 rfl) ?_
  refine lv_iload_n hx hb dL_copy_4 rfl (lv_at hl 2 rfl) ?_
  refine tc_V (hpc := 13) (As := [.int (nI i), .int j]) (rest := [.int (nI 0), .ref ou]) (wc := [(lo, .inr (2, [.ref ra, .ref d0, .ref b0, .ref t0, .ref r0])), (ra, .inl (T 2, 6, .inr (.inr (.inr (.inr (fun j => some (rd j)))))))]) (wr := [(ou, .inl (T 3, 1, .inr (.inl o)))]) ⟨hx, hb, hml, hown, hts⟩ (c_copy_x2 l D T g s.heap.size (hl9) lo ra d0 b0 t0 r0 rd i (hi) j (hj)) (cwV 2 hts gL_copy_X5_copy rfl rfl rfl (by decide +kernel) ⟨Nat.le_of_ble_eq_true rfl, Nat.le_of_ble_eq_true rfl⟩) (va_recv hK hP (ci := 2) (q0 := 0) rfl rfl) hP hD hK hG hS hA [0, 1] [2] rfl (by decide) rfl (by decide) (by decide) ⟨Nat.le_of_ble_eq_true rfl, Nat.le_of_ble_eq_true rfl⟩ rfl hl.1 (Nat.le_of_ble_eq_true rfl) dL_copy_5 rfl (fun H1 locs1 q9 ce h1 h2 h3 k9 => vx_catch (name := "java/lang/IndexOutOfBoundsException") hown [] ⟨0, 10, 13, 13⟩ [] (htab.trans rfl) (fun _ h => absurd h List.not_mem_nil) (by decide) (by decide) (hts _ (List.mem_of_getElem? (i := 1) rfl)) (va_Yc.word (hN.2 _ (List.mem_of_getElem? (i := 0) rfl))) h1 h2 h3 k9) (fun u q9 H locs hq1 hP hD hS => ?_)
  refine W.widen (k := 1) (n := 6) (Nat.le_of_ble_eq_true rfl) (Nat.le_of_ble_eq_true rfl) ?_
  have hP : va_P D cls [(ou, .inl (T 3, 1, .inr (.inl o))), (lo, .inr (2, [.ref ra, .ref d0, .ref b0, .ref t0, .ref r0])), (ra, .inl (T 2, 6, .inr (.inr (.inr (.inr (fun j => some (rd j)))))))] H := hP
  have hD : va_D A [(ou, .inl (T 3, 1, .inr (.inl o))), (lo, .inr (2, [.ref ra, .ref d0, .ref b0, .ref t0, .ref r0])), (ra, .inl (T 2, 6, .inr (.inr (.inr (.inr (fun j => some (rd j)))))))] := hD
  refine lv_astore (lv' := [(4, .ref q9), (0, .ref lo), (1, .int (nI i)), (2, .int j), (3, .ref ou)]) hx hb dL_copy_13 hl (by decide) rfl (fun ls hl => ?_)
  refine lv_iconst (v := (nI 1)) hx hb dL_copy_15 (by decide +kernel) ?_
  have hP9 := hP.sub (ws' := [(lo, .inr (2, [.ref ra, .ref d0, .ref b0, .ref t0, .ref r0])), (ra, .inl (T 2, 6, .inr (.inr (.inr (.inr (fun j => some (rd j))))))), (ou, .inl (T 3, 1, .inr (.inl o)))]) [1, 2, 0] rfl
  have hD9 := hD.sub (ws' := [(lo, .inr (2, [.ref ra, .ref d0, .ref b0, .ref t0, .ref r0])), (ra, .inl (T 2, 6, .inr (.inr (.inr (.inr (fun j => some (rd j))))))), (ou, .inl (T 3, 1, .inr (.inl o)))]) [1, 2, 0] (by decide) rfl
  refine W.widen (k := 5) (n := 1106) (by omega) (by omega) ?_
  exact W.iret (v := (nI 1)) hx hb hr (fun t ht hW => ⟨⟨(), rfl, trivial, (by rw [ht]; exact hP9), va_K.moved hW.alike hK, hD9⟩, hS.F ht⟩) hS.2.2 dL_copy_16
set_option maxHeartbeats 4000000 in
set_option maxRecDepth 100000 in
theorem h_copy (l : Launch) (D : va_G) (T : Nat → ClassId) (g : Nat → Nat) (sz : Nat) (lo : Nat) (ra : Nat) (d0 : Nat) (b0 : Nat) (t0 : Nat) (r0 : Nat) (rd : Nat → Nat) (i : Nat) (q0 : Nat) (f : Nat → Int32) (n : Nat) (j : Nat) (q1 : Nat) (f1 : Nat → Int32) (n1 : Nat) (b : Nat → Nat) (hb9 : RB f n b) (hi : i < 6) (hj : j < 6) (hn4 : n ≤ 440) (ou : Nat) (o : Nat → Int64) : MUN l yL_copy wsL_copy ({ frames := 80, cells := 5, slots := 1106, locals := 4000 } : Room) D T g [.ref lo, .int (nI i), .int (nI j), .ref ou] [(lo, .inr (2, [.ref ra, .ref d0, .ref b0, .ref t0, .ref r0])), (ra, .inl (T 2, 6, .inr (.inr (.inr (.inr (fun j => some (rd j))))))), (rd i, .inr (0, [.ref q0, .int (nI n)])), (q0, .inl (T 0, 440, .inl f)), (rd j, .inr (0, [.ref q1, .int (nI n1)])), (q1, .inl (T 0, 440, .inl f1)), (ou, .inl (T 3, 1, .inr (.inl o)))] sz (fun u : Nat → Int32 => some (.int (nI 0))) (fun u : Nat → Int32 => RB u n b) (fun u : Nat → Int32 => [(lo, .inr (2, [.ref ra, .ref d0, .ref b0, .ref t0, .ref r0])), (ra, .inl (T 2, 6, .inr (.inr (.inr (.inr (fun j => some (rd j))))))), (rd i, .inr (0, [.ref q0, .int (nI n)])), (q0, .inl (T 0, 440, .inl f)), (rd j, .inr (0, [.ref q1, .int (nI n)])), (q1, .inl (T 0, 440, .inl u)), (ou, .inl (T 3, 1, .inr (.inl (vp_updL o 0 (lN n)))))]) 5 1106 := by
  refine va_MetW (hh := [(0, 10, 13, 13)]) (cc := cL_copy) (maxL := 5) (ret := (some .int)) (by decide) rfl ?_
  intro p e s m args below meth c s₁ B hml hv
  obtain ⟨rfl, ⟨hsz, hP, hK, hD0, hG⟩, hN⟩ := hv
  have hx := B.exec
  have hb := B.bytes
  have hr := B.returns
  have hts := atoms_spec (ws := wsL_copy) B.pre
  have hown : s.vm.findClass RL = some m.cls := findClass_of_methodNamed B.named
  have hlocks := B.notSynchronized
  have htab : c.exceptionTable.toList = tableOf [(0, 10, 13, 13)] := vx_table (x := yL_add) B (hts _ (List.mem_of_getElem? (i := 0) rfl))
  subst hsz
  have hD := hD0.self (sz := s.heap.size)
  generalize hAe : va_A [(lo, .inr (2, [.ref ra, .ref d0, .ref b0, .ref t0, .ref r0])), (ra, .inl (T 2, 6, .inr (.inr (.inr (.inr (fun j => some (rd j))))))), (rd i, .inr (0, [.ref q0, .int (nI n)])), (q0, .inl (T 0, 440, .inl f)), (rd j, .inr (0, [.ref q1, .int (nI n1)])), (q1, .inl (T 0, 440, .inl f1)), (ou, .inl (T 3, 1, .inr (.inl o)))] s.heap.size = A at hD hG ⊢
  have hA : ∀ q : Nat, s.heap.size ≤ q → A q := fun q h => by rw [← hAe]; exact Or.inr h
  have hS : va_S A s.heap s.heap [] := va_S.rf
  have hP : va_P D cls [(lo, .inr (2, [.ref ra, .ref d0, .ref b0, .ref t0, .ref r0])), (ra, .inl (T 2, 6, .inr (.inr (.inr (.inr (fun j => some (rd j))))))), (rd i, .inr (0, [.ref q0, .int (nI n)])), (q0, .inl (T 0, 440, .inl f)), (rd j, .inr (0, [.ref q1, .int (nI n1)])), (q1, .inl (T 0, 440, .inl f1)), (ou, .inl (T 3, 1, .inr (.inl o)))] s.heap := hP
  have hl := lv_entry ([.ref lo, .int (nI i), .int (nI j), .ref ou]) (n := 5) (Nat.le_of_ble_eq_true rfl)
  rw [lg_entry_eq]
  generalize (lg_sl ([.ref lo, .int (nI i), .int (nI j), .ref ou]) ++ List.replicate (5 - (lg_sl ([.ref lo, .int (nI i), .int (nI j), .ref ou])).length) Slot.unset).toArray = ls at hl ⊢
  have hl : lv_has ls 5 [(0, .ref lo), (1, .int (nI i)), (2, .int (nI j)), (3, .ref ou)] := hl
  refine lv_aload_n hx hb dL_copy_0 rfl (lv_at hl 3 rfl) ?_
  refine lv_iconst (v := (nI 0)) hx hb dL_copy_1 (by decide +kernel) ?_
  refine lv_aload_n hx hb dL_copy_2 rfl (lv_at hl 0 rfl) ?_
  refine lv_iload_n hx hb dL_copy_3 rfl (lv_at hl 1 rfl) ?_
  refine lv_iload_n hx hb dL_copy_4 rfl (lv_at hl 2 rfl) ?_
  refine mu_V (As := [.int (nI i), .int (nI j)]) (rest := [.int (nI 0), .ref ou]) (wc := [(lo, .inr (2, [.ref ra, .ref d0, .ref b0, .ref t0, .ref r0])), (ra, .inl (T 2, 6, .inr (.inr (.inr (.inr (fun j => some (rd j))))))), (rd i, .inr (0, [.ref q0, .int (nI n)])), (q0, .inl (T 0, 440, .inl f)), (rd j, .inr (0, [.ref q1, .int (nI n1)])), (q1, .inl (T 0, 440, .inl f1))]) (wr := [(ou, .inl (T 3, 1, .inr (.inl o)))]) ⟨hx, hb, hml, hown, hts⟩ (c_copy l D T g s.heap.size lo ra d0 b0 t0 r0 rd i q0 f n j q1 f1 n1 b (hb9) (hi) (hj)) (cwV 2 hts gL_copy_X5_copy rfl rfl rfl (by decide +kernel) ⟨Nat.le_of_ble_eq_true rfl, Nat.le_of_ble_eq_true rfl⟩) (va_recv hK hP (ci := 2) (q0 := 0) rfl rfl) hP hD hK hG hS hA [0, 1, 2, 3, 4, 5] [6] rfl (by decide) rfl (by decide) (by decide) ⟨Nat.le_of_ble_eq_true rfl, Nat.le_of_ble_eq_true rfl⟩ rfl hl.1 (Nat.le_of_ble_eq_true rfl) dL_copy_5 rfl (fun u H locs hq2 hP hD hS => ?_)
  obtain ⟨F_1, hu9⟩ : ∃ z, z = u := ⟨_, rfl⟩
  subst hu9
  have hP : va_P D cls [(ou, .inl (T 3, 1, .inr (.inl o))), (lo, .inr (2, [.ref ra, .ref d0, .ref b0, .ref t0, .ref r0])), (ra, .inl (T 2, 6, .inr (.inr (.inr (.inr (fun j => some (rd j))))))), (rd i, .inr (0, [.ref q0, .int (nI n)])), (q0, .inl (T 0, 440, .inl f)), (rd j, .inr (0, [.ref q1, .int (nI n)])), (q1, .inl (T 0, 440, .inl F_1))] H := hP
  have hD : va_D A [(ou, .inl (T 3, 1, .inr (.inl o))), (lo, .inr (2, [.ref ra, .ref d0, .ref b0, .ref t0, .ref r0])), (ra, .inl (T 2, 6, .inr (.inr (.inr (.inr (fun j => some (rd j))))))), (rd i, .inr (0, [.ref q0, .int (nI n)])), (q0, .inl (T 0, 440, .inl f)), (rd j, .inr (0, [.ref q1, .int (nI n)])), (q1, .inl (T 0, 440, .inl F_1))] := hD
  have hp1 : RB F_1 n b := hq2
  refine W.eq (g2 := F0 m 8 ls [.int (nI n), .int (nI 0), .ref ou]) rfl ?_
  refine lv_i2l hx hb dL_copy_8 (v := lN n) (nI_l (by omega)) ?_
  refine va_last hx hb hK hP hD hS 0 3 rfl rfl (vp_in_nI (by omega) (by omega)) dL_copy_9 (fun H locs hP hD hS => ?_)
  rw [nI_clamp (by omega)] at hP hD
  have hP : va_P D cls [(ou, .inl (T 3, 1, .inr (.inl (vp_updL o 0 (lN n))))), (lo, .inr (2, [.ref ra, .ref d0, .ref b0, .ref t0, .ref r0])), (ra, .inl (T 2, 6, .inr (.inr (.inr (.inr (fun j => some (rd j))))))), (rd i, .inr (0, [.ref q0, .int (nI n)])), (q0, .inl (T 0, 440, .inl f)), (rd j, .inr (0, [.ref q1, .int (nI n)])), (q1, .inl (T 0, 440, .inl F_1))] H := hP
  have hD : va_D A [(ou, .inl (T 3, 1, .inr (.inl (vp_updL o 0 (lN n))))), (lo, .inr (2, [.ref ra, .ref d0, .ref b0, .ref t0, .ref r0])), (ra, .inl (T 2, 6, .inr (.inr (.inr (.inr (fun j => some (rd j))))))), (rd i, .inr (0, [.ref q0, .int (nI n)])), (q0, .inl (T 0, 440, .inl f)), (rd j, .inr (0, [.ref q1, .int (nI n)])), (q1, .inl (T 0, 440, .inl F_1))] := hD
  refine lv_goto (tgt := 17) hx hb dL_copy_10 (by decide) ?_
  refine lv_iconst (v := (nI 0)) hx hb dL_copy_17 (by decide +kernel) ?_
  have hP9 := hP.sub (ws' := [(lo, .inr (2, [.ref ra, .ref d0, .ref b0, .ref t0, .ref r0])), (ra, .inl (T 2, 6, .inr (.inr (.inr (.inr (fun j => some (rd j))))))), (rd i, .inr (0, [.ref q0, .int (nI n)])), (q0, .inl (T 0, 440, .inl f)), (rd j, .inr (0, [.ref q1, .int (nI n)])), (q1, .inl (T 0, 440, .inl F_1)), (ou, .inl (T 3, 1, .inr (.inl (vp_updL o 0 (lN n)))))]) [1, 2, 3, 4, 5, 6, 0] rfl
  have hD9 := hD.sub (ws' := [(lo, .inr (2, [.ref ra, .ref d0, .ref b0, .ref t0, .ref r0])), (ra, .inl (T 2, 6, .inr (.inr (.inr (.inr (fun j => some (rd j))))))), (rd i, .inr (0, [.ref q0, .int (nI n)])), (q0, .inl (T 0, 440, .inl f)), (rd j, .inr (0, [.ref q1, .int (nI n)])), (q1, .inl (T 0, 440, .inl F_1)), (ou, .inl (T 3, 1, .inr (.inl (vp_updL o 0 (lN n)))))]) [1, 2, 3, 4, 5, 6, 0] (by decide) rfl
  refine W.widen (k := 5) (n := 1106) (by omega) (by omega) ?_
  exact W.iret (v := (nI 0)) hx hb hr (fun t ht hW => ⟨⟨F_1, rfl, hp1, (by rw [ht]; exact hP9), va_K.moved hW.alike hK, hD9⟩, hS.F ht⟩) hS.2.2 dL_copy_18
set_option maxHeartbeats 4000000 in
set_option maxRecDepth 100000 in
theorem h_copy_a (l : Launch) (D : va_G) (T : Nat → ClassId) (g : Nat → Nat) (sz : Nat) (lo : Nat) (ra : Nat) (d0 : Nat) (b0 : Nat) (t0 : Nat) (r0 : Nat) (rd : Nat → Nat) (i : Nat) (q0 : Nat) (f : Nat → Int32) (n : Nat) (hi : i < 6) (hn4 : n ≤ 440) (ou : Nat) (o : Nat → Int64) : MUN l yL_copy wsL_copy ({ frames := 80, cells := 5, slots := 1106, locals := 4000 } : Room) D T g [.ref lo, .int (nI i), .int (nI i), .ref ou] [(lo, .inr (2, [.ref ra, .ref d0, .ref b0, .ref t0, .ref r0])), (ra, .inl (T 2, 6, .inr (.inr (.inr (.inr (fun j => some (rd j))))))), (rd i, .inr (0, [.ref q0, .int (nI n)])), (q0, .inl (T 0, 440, .inl f)), (ou, .inl (T 3, 1, .inr (.inl o)))] sz (fun u : Unit => some (.int (nI 0))) (fun u : Unit => True) (fun u : Unit => [(lo, .inr (2, [.ref ra, .ref d0, .ref b0, .ref t0, .ref r0])), (ra, .inl (T 2, 6, .inr (.inr (.inr (.inr (fun j => some (rd j))))))), (rd i, .inr (0, [.ref q0, .int (nI n)])), (q0, .inl (T 0, 440, .inl f)), (ou, .inl (T 3, 1, .inr (.inl (vp_updL o 0 (lN n)))))]) 5 1106 := by
  refine va_MetW (hh := [(0, 10, 13, 13)]) (cc := cL_copy) (maxL := 5) (ret := (some .int)) (by decide) rfl ?_
  intro p e s m args below meth c s₁ B hml hv
  obtain ⟨rfl, ⟨hsz, hP, hK, hD0, hG⟩, hN⟩ := hv
  have hx := B.exec
  have hb := B.bytes
  have hr := B.returns
  have hts := atoms_spec (ws := wsL_copy) B.pre
  have hown : s.vm.findClass RL = some m.cls := findClass_of_methodNamed B.named
  have hlocks := B.notSynchronized
  have htab : c.exceptionTable.toList = tableOf [(0, 10, 13, 13)] := vx_table (x := yL_add) B (hts _ (List.mem_of_getElem? (i := 0) rfl))
  subst hsz
  have hD := hD0.self (sz := s.heap.size)
  generalize hAe : va_A [(lo, .inr (2, [.ref ra, .ref d0, .ref b0, .ref t0, .ref r0])), (ra, .inl (T 2, 6, .inr (.inr (.inr (.inr (fun j => some (rd j))))))), (rd i, .inr (0, [.ref q0, .int (nI n)])), (q0, .inl (T 0, 440, .inl f)), (ou, .inl (T 3, 1, .inr (.inl o)))] s.heap.size = A at hD hG ⊢
  have hA : ∀ q : Nat, s.heap.size ≤ q → A q := fun q h => by rw [← hAe]; exact Or.inr h
  have hS : va_S A s.heap s.heap [] := va_S.rf
  have hP : va_P D cls [(lo, .inr (2, [.ref ra, .ref d0, .ref b0, .ref t0, .ref r0])), (ra, .inl (T 2, 6, .inr (.inr (.inr (.inr (fun j => some (rd j))))))), (rd i, .inr (0, [.ref q0, .int (nI n)])), (q0, .inl (T 0, 440, .inl f)), (ou, .inl (T 3, 1, .inr (.inl o)))] s.heap := hP
  have hl := lv_entry ([.ref lo, .int (nI i), .int (nI i), .ref ou]) (n := 5) (Nat.le_of_ble_eq_true rfl)
  rw [lg_entry_eq]
  generalize (lg_sl ([.ref lo, .int (nI i), .int (nI i), .ref ou]) ++ List.replicate (5 - (lg_sl ([.ref lo, .int (nI i), .int (nI i), .ref ou])).length) Slot.unset).toArray = ls at hl ⊢
  have hl : lv_has ls 5 [(0, .ref lo), (1, .int (nI i)), (2, .int (nI i)), (3, .ref ou)] := hl
  refine lv_aload_n hx hb dL_copy_0 rfl (lv_at hl 3 rfl) ?_
  refine lv_iconst (v := (nI 0)) hx hb dL_copy_1 (by decide +kernel) ?_
  refine lv_aload_n hx hb dL_copy_2 rfl (lv_at hl 0 rfl) ?_
  refine lv_iload_n hx hb dL_copy_3 rfl (lv_at hl 1 rfl) ?_
  refine lv_iload_n hx hb dL_copy_4 rfl (lv_at hl 2 rfl) ?_
  refine mu_V (As := [.int (nI i), .int (nI i)]) (rest := [.int (nI 0), .ref ou]) (wc := [(lo, .inr (2, [.ref ra, .ref d0, .ref b0, .ref t0, .ref r0])), (ra, .inl (T 2, 6, .inr (.inr (.inr (.inr (fun j => some (rd j))))))), (rd i, .inr (0, [.ref q0, .int (nI n)])), (q0, .inl (T 0, 440, .inl f))]) (wr := [(ou, .inl (T 3, 1, .inr (.inl o)))]) ⟨hx, hb, hml, hown, hts⟩ (c_copy_a l D T g s.heap.size lo ra d0 b0 t0 r0 rd i q0 f n (hi)) (cwV 2 hts gL_copy_X5_copy rfl rfl rfl (by decide +kernel) ⟨Nat.le_of_ble_eq_true rfl, Nat.le_of_ble_eq_true rfl⟩) (va_recv hK hP (ci := 2) (q0 := 0) rfl rfl) hP hD hK hG hS hA [0, 1, 2, 3] [4] rfl (by decide) rfl (by decide) (by decide) ⟨Nat.le_of_ble_eq_true rfl, Nat.le_of_ble_eq_true rfl⟩ rfl hl.1 (Nat.le_of_ble_eq_true rfl) dL_copy_5 rfl (fun u H locs hq1 hP hD hS => ?_)
  have hP : va_P D cls [(ou, .inl (T 3, 1, .inr (.inl o))), (lo, .inr (2, [.ref ra, .ref d0, .ref b0, .ref t0, .ref r0])), (ra, .inl (T 2, 6, .inr (.inr (.inr (.inr (fun j => some (rd j))))))), (rd i, .inr (0, [.ref q0, .int (nI n)])), (q0, .inl (T 0, 440, .inl f))] H := hP
  have hD : va_D A [(ou, .inl (T 3, 1, .inr (.inl o))), (lo, .inr (2, [.ref ra, .ref d0, .ref b0, .ref t0, .ref r0])), (ra, .inl (T 2, 6, .inr (.inr (.inr (.inr (fun j => some (rd j))))))), (rd i, .inr (0, [.ref q0, .int (nI n)])), (q0, .inl (T 0, 440, .inl f))] := hD
  refine W.eq (g2 := F0 m 8 ls [.int (nI n), .int (nI 0), .ref ou]) rfl ?_
  refine lv_i2l hx hb dL_copy_8 (v := lN n) (nI_l (by omega)) ?_
  refine va_last hx hb hK hP hD hS 0 3 rfl rfl (vp_in_nI (by omega) (by omega)) dL_copy_9 (fun H locs hP hD hS => ?_)
  rw [nI_clamp (by omega)] at hP hD
  have hP : va_P D cls [(ou, .inl (T 3, 1, .inr (.inl (vp_updL o 0 (lN n))))), (lo, .inr (2, [.ref ra, .ref d0, .ref b0, .ref t0, .ref r0])), (ra, .inl (T 2, 6, .inr (.inr (.inr (.inr (fun j => some (rd j))))))), (rd i, .inr (0, [.ref q0, .int (nI n)])), (q0, .inl (T 0, 440, .inl f))] H := hP
  have hD : va_D A [(ou, .inl (T 3, 1, .inr (.inl (vp_updL o 0 (lN n))))), (lo, .inr (2, [.ref ra, .ref d0, .ref b0, .ref t0, .ref r0])), (ra, .inl (T 2, 6, .inr (.inr (.inr (.inr (fun j => some (rd j))))))), (rd i, .inr (0, [.ref q0, .int (nI n)])), (q0, .inl (T 0, 440, .inl f))] := hD
  refine lv_goto (tgt := 17) hx hb dL_copy_10 (by decide) ?_
  refine lv_iconst (v := (nI 0)) hx hb dL_copy_17 (by decide +kernel) ?_
  have hP9 := hP.sub (ws' := [(lo, .inr (2, [.ref ra, .ref d0, .ref b0, .ref t0, .ref r0])), (ra, .inl (T 2, 6, .inr (.inr (.inr (.inr (fun j => some (rd j))))))), (rd i, .inr (0, [.ref q0, .int (nI n)])), (q0, .inl (T 0, 440, .inl f)), (ou, .inl (T 3, 1, .inr (.inl (vp_updL o 0 (lN n)))))]) [1, 2, 3, 4, 0] rfl
  have hD9 := hD.sub (ws' := [(lo, .inr (2, [.ref ra, .ref d0, .ref b0, .ref t0, .ref r0])), (ra, .inl (T 2, 6, .inr (.inr (.inr (.inr (fun j => some (rd j))))))), (rd i, .inr (0, [.ref q0, .int (nI n)])), (q0, .inl (T 0, 440, .inl f)), (ou, .inl (T 3, 1, .inr (.inl (vp_updL o 0 (lN n)))))]) [1, 2, 3, 4, 0] (by decide) rfl
  refine W.widen (k := 5) (n := 1106) (by omega) (by omega) ?_
  exact W.iret (v := (nI 0)) hx hb hr (fun t ht hW => ⟨⟨(), rfl, trivial, (by rw [ht]; exact hP9), va_K.moved hW.alike hK, hD9⟩, hS.F ht⟩) hS.2.2 dL_copy_18
set_option maxHeartbeats 4000000 in
set_option maxRecDepth 100000 in
theorem h_isLike_x1 (l : Launch) (D : va_G) (T : Nat → ClassId) (g : Nat → Nat) (sz : Nat) (hl9 : l.stackTraces = false) (lo : Nat) (ra : Nat) (d0 : Nat) (b0 : Nat) (t0 : Nat) (r0 : Nat) (rd : Nat → Nat) (i : Int32) (hi : i < 0 ∨ ¬ i < nI 6) (x0 : Int32) (ou : Nat) (o : Nat → Int64) : MUN l yL_isLike wsL_isLike ({ frames := 80, cells := 5, slots := 1106, locals := 4000 } : Room) D T g [.ref lo, .int i, .int x0, .ref ou] [(lo, .inr (2, [.ref ra, .ref d0, .ref b0, .ref t0, .ref r0])), (ra, .inl (T 2, 6, .inr (.inr (.inr (.inr (fun j => some (rd j))))))), (ou, .inl (T 3, 1, .inr (.inl o)))] sz (fun u : Unit => some (.int (nI 1))) (fun u : Unit => True) (fun u : Unit => [(lo, .inr (2, [.ref ra, .ref d0, .ref b0, .ref t0, .ref r0])), (ra, .inl (T 2, 6, .inr (.inr (.inr (.inr (fun j => some (rd j))))))), (ou, .inl (T 3, 1, .inr (.inl o)))]) 5 1106 := by
  refine va_MetW (hh := [(0, 17, 20, 13)]) (cc := cL_isLike) (maxL := 5) (ret := (some .int)) (by decide) rfl ?_
  intro p e s m args below meth c s₁ B hml hv
  obtain ⟨rfl, ⟨hsz, hP, hK, hD0, hG⟩, hN⟩ := hv
  have hx := B.exec
  have hb := B.bytes
  have hr := B.returns
  have hts := atoms_spec (ws := wsL_isLike) B.pre
  have hown : s.vm.findClass RL = some m.cls := findClass_of_methodNamed B.named
  have hlocks := B.notSynchronized
  have htab : c.exceptionTable.toList = tableOf [(0, 17, 20, 13)] := vx_table (x := yL_add) B (hts _ (List.mem_of_getElem? (i := 0) rfl))
  subst hsz
  have hD := hD0.self (sz := s.heap.size)
  generalize hAe : va_A [(lo, .inr (2, [.ref ra, .ref d0, .ref b0, .ref t0, .ref r0])), (ra, .inl (T 2, 6, .inr (.inr (.inr (.inr (fun j => some (rd j))))))), (ou, .inl (T 3, 1, .inr (.inl o)))] s.heap.size = A at hD hG ⊢
  have hA : ∀ q : Nat, s.heap.size ≤ q → A q := fun q h => by rw [← hAe]; exact Or.inr h
  have hS : va_S A s.heap s.heap [] := va_S.rf
  have hP : va_P D cls [(lo, .inr (2, [.ref ra, .ref d0, .ref b0, .ref t0, .ref r0])), (ra, .inl (T 2, 6, .inr (.inr (.inr (.inr (fun j => some (rd j))))))), (ou, .inl (T 3, 1, .inr (.inl o)))] s.heap := hP
  have hl := lv_entry ([.ref lo, .int i, .int x0, .ref ou]) (n := 5) (Nat.le_of_ble_eq_true rfl)
  rw [lg_entry_eq]
  generalize (lg_sl ([.ref lo, .int i, .int x0, .ref ou]) ++ List.replicate (5 - (lg_sl ([.ref lo, .int i, .int x0, .ref ou])).length) Slot.unset).toArray = ls at hl ⊢
  have hl : lv_has ls 5 [(0, .ref lo), (1, .int i), (2, .int x0), (3, .ref ou)] := hl
  refine lv_aload_n hx hb dL_isLike_0 rfl (lv_at hl 3 rfl) ?_
  refine lv_iconst (v := (nI 0)) hx hb dL_isLike_1 (by decide +kernel) ?_
  refine lv_aload_n hx hb dL_isLike_2 rfl (lv_at hl 0 rfl) ?_
  refine lv_iload_n hx hb dL_isLike_3 rfl (lv_at hl 1 rfl) ?_
  refine lv_iload_n hx hb dL_isLike_4 rfl (lv_at hl 2 rfl) ?_
  refine tc_V (hpc := 20) (As := [.int i, .int x0]) (rest := [.int (nI 0), .ref ou]) (wc := [(lo, .inr (2, [.ref ra, .ref d0, .ref b0, .ref t0, .ref r0])), (ra, .inl (T 2, 6, .inr (.inr (.inr (.inr (fun j => some (rd j)))))))]) (wr := [(ou, .inl (T 3, 1, .inr (.inl o)))]) ⟨hx, hb, hml, hown, hts⟩ (c_isLike_x1 l D T g s.heap.size (hl9) lo ra d0 b0 t0 r0 rd i (hi) x0) (cwV 2 hts gL_isLike_X5_isLike rfl rfl rfl (by decide +kernel) ⟨Nat.le_of_ble_eq_true rfl, Nat.le_of_ble_eq_true rfl⟩) (va_recv hK hP (ci := 2) (q0 := 0) rfl rfl) hP hD hK hG hS hA [0, 1] [2] rfl (by decide) rfl (by decide) (by decide) ⟨Nat.le_of_ble_eq_true rfl, Nat.le_of_ble_eq_true rfl⟩ rfl hl.1 (Nat.le_of_ble_eq_true rfl) dL_isLike_5 rfl (fun H1 locs1 q9 ce h1 h2 h3 k9 => vx_catch (name := "java/lang/IndexOutOfBoundsException") hown [] ⟨0, 17, 20, 13⟩ [] (htab.trans rfl) (fun _ h => absurd h List.not_mem_nil) (by decide) (by decide) (hts _ (List.mem_of_getElem? (i := 1) rfl)) (va_Yc.word (hN.2 _ (List.mem_of_getElem? (i := 0) rfl))) h1 h2 h3 k9) (fun u q9 H locs hq1 hP hD hS => ?_)
  refine W.widen (k := 1) (n := 6) (Nat.le_of_ble_eq_true rfl) (Nat.le_of_ble_eq_true rfl) ?_
  have hP : va_P D cls [(ou, .inl (T 3, 1, .inr (.inl o))), (lo, .inr (2, [.ref ra, .ref d0, .ref b0, .ref t0, .ref r0])), (ra, .inl (T 2, 6, .inr (.inr (.inr (.inr (fun j => some (rd j)))))))] H := hP
  have hD : va_D A [(ou, .inl (T 3, 1, .inr (.inl o))), (lo, .inr (2, [.ref ra, .ref d0, .ref b0, .ref t0, .ref r0])), (ra, .inl (T 2, 6, .inr (.inr (.inr (.inr (fun j => some (rd j)))))))] := hD
  refine lv_astore (lv' := [(4, .ref q9), (0, .ref lo), (1, .int i), (2, .int x0), (3, .ref ou)]) hx hb dL_isLike_20 hl (by decide) rfl (fun ls hl => ?_)
  refine lv_iconst (v := (nI 1)) hx hb dL_isLike_22 (by decide +kernel) ?_
  have hP9 := hP.sub (ws' := [(lo, .inr (2, [.ref ra, .ref d0, .ref b0, .ref t0, .ref r0])), (ra, .inl (T 2, 6, .inr (.inr (.inr (.inr (fun j => some (rd j))))))), (ou, .inl (T 3, 1, .inr (.inl o)))]) [1, 2, 0] rfl
  have hD9 := hD.sub (ws' := [(lo, .inr (2, [.ref ra, .ref d0, .ref b0, .ref t0, .ref r0])), (ra, .inl (T 2, 6, .inr (.inr (.inr (.inr (fun j => some (rd j))))))), (ou, .inl (T 3, 1, .inr (.inl o)))]) [1, 2, 0] (by decide) rfl
  refine W.widen (k := 5) (n := 1106) (by omega) (by omega) ?_
  exact W.iret (v := (nI 1)) hx hb hr (fun t ht hW => ⟨⟨(), rfl, trivial, (by rw [ht]; exact hP9), va_K.moved hW.alike hK, hD9⟩, hS.F ht⟩) hS.2.2 dL_isLike_23
set_option maxHeartbeats 4000000 in
set_option maxRecDepth 100000 in
theorem h_isLike_x2 (l : Launch) (D : va_G) (T : Nat → ClassId) (g : Nat → Nat) (sz : Nat) (hl9 : l.stackTraces = false) (lo : Nat) (ra : Nat) (d0 : Nat) (b0 : Nat) (t0 : Nat) (r0 : Nat) (rd : Nat → Nat) (i : Nat) (hi : i < 6) (j : Int32) (hj : j < 0 ∨ ¬ j < nI 6) (ou : Nat) (o : Nat → Int64) : MUN l yL_isLike wsL_isLike ({ frames := 80, cells := 5, slots := 1106, locals := 4000 } : Room) D T g [.ref lo, .int (nI i), .int j, .ref ou] [(lo, .inr (2, [.ref ra, .ref d0, .ref b0, .ref t0, .ref r0])), (ra, .inl (T 2, 6, .inr (.inr (.inr (.inr (fun j => some (rd j))))))), (ou, .inl (T 3, 1, .inr (.inl o)))] sz (fun u : Unit => some (.int (nI 1))) (fun u : Unit => True) (fun u : Unit => [(lo, .inr (2, [.ref ra, .ref d0, .ref b0, .ref t0, .ref r0])), (ra, .inl (T 2, 6, .inr (.inr (.inr (.inr (fun j => some (rd j))))))), (ou, .inl (T 3, 1, .inr (.inl o)))]) 5 1106 := by
  refine va_MetW (hh := [(0, 17, 20, 13)]) (cc := cL_isLike) (maxL := 5) (ret := (some .int)) (by decide) rfl ?_
  intro p e s m args below meth c s₁ B hml hv
  obtain ⟨rfl, ⟨hsz, hP, hK, hD0, hG⟩, hN⟩ := hv
  have hx := B.exec
  have hb := B.bytes
  have hr := B.returns
  have hts := atoms_spec (ws := wsL_isLike) B.pre
  have hown : s.vm.findClass RL = some m.cls := findClass_of_methodNamed B.named
  have hlocks := B.notSynchronized
  have htab : c.exceptionTable.toList = tableOf [(0, 17, 20, 13)] := vx_table (x := yL_add) B (hts _ (List.mem_of_getElem? (i := 0) rfl))
  subst hsz
  have hD := hD0.self (sz := s.heap.size)
  generalize hAe : va_A [(lo, .inr (2, [.ref ra, .ref d0, .ref b0, .ref t0, .ref r0])), (ra, .inl (T 2, 6, .inr (.inr (.inr (.inr (fun j => some (rd j))))))), (ou, .inl (T 3, 1, .inr (.inl o)))] s.heap.size = A at hD hG ⊢
  have hA : ∀ q : Nat, s.heap.size ≤ q → A q := fun q h => by rw [← hAe]; exact Or.inr h
  have hS : va_S A s.heap s.heap [] := va_S.rf
  have hP : va_P D cls [(lo, .inr (2, [.ref ra, .ref d0, .ref b0, .ref t0, .ref r0])), (ra, .inl (T 2, 6, .inr (.inr (.inr (.inr (fun j => some (rd j))))))), (ou, .inl (T 3, 1, .inr (.inl o)))] s.heap := hP
  have hl := lv_entry ([.ref lo, .int (nI i), .int j, .ref ou]) (n := 5) (Nat.le_of_ble_eq_true rfl)
  rw [lg_entry_eq]
  generalize (lg_sl ([.ref lo, .int (nI i), .int j, .ref ou]) ++ List.replicate (5 - (lg_sl ([.ref lo, .int (nI i), .int j, .ref ou])).length) Slot.unset).toArray = ls at hl ⊢
  have hl : lv_has ls 5 [(0, .ref lo), (1, .int (nI i)), (2, .int j), (3, .ref ou)] := hl
  refine lv_aload_n hx hb dL_isLike_0 rfl (lv_at hl 3 rfl) ?_
  refine lv_iconst (v := (nI 0)) hx hb dL_isLike_1 (by decide +kernel) ?_
  refine lv_aload_n hx hb dL_isLike_2 rfl (lv_at hl 0 rfl) ?_
  refine lv_iload_n hx hb dL_isLike_3 rfl (lv_at hl 1 rfl) ?_
  refine lv_iload_n hx hb dL_isLike_4 rfl (lv_at hl 2 rfl) ?_
  refine tc_V (hpc := 20) (As := [.int (nI i), .int j]) (rest := [.int (nI 0), .ref ou]) (wc := [(lo, .inr (2, [.ref ra, .ref d0, .ref b0, .ref t0, .ref r0])), (ra, .inl (T 2, 6, .inr (.inr (.inr (.inr (fun j => some (rd j)))))))]) (wr := [(ou, .inl (T 3, 1, .inr (.inl o)))]) ⟨hx, hb, hml, hown, hts⟩ (c_isLike_x2 l D T g s.heap.size (hl9) lo ra d0 b0 t0 r0 rd i (hi) j (hj)) (cwV 2 hts gL_isLike_X5_isLike rfl rfl rfl (by decide +kernel) ⟨Nat.le_of_ble_eq_true rfl, Nat.le_of_ble_eq_true rfl⟩) (va_recv hK hP (ci := 2) (q0 := 0) rfl rfl) hP hD hK hG hS hA [0, 1] [2] rfl (by decide) rfl (by decide) (by decide) ⟨Nat.le_of_ble_eq_true rfl, Nat.le_of_ble_eq_true rfl⟩ rfl hl.1 (Nat.le_of_ble_eq_true rfl) dL_isLike_5 rfl (fun H1 locs1 q9 ce h1 h2 h3 k9 => vx_catch (name := "java/lang/IndexOutOfBoundsException") hown [] ⟨0, 17, 20, 13⟩ [] (htab.trans rfl) (fun _ h => absurd h List.not_mem_nil) (by decide) (by decide) (hts _ (List.mem_of_getElem? (i := 1) rfl)) (va_Yc.word (hN.2 _ (List.mem_of_getElem? (i := 0) rfl))) h1 h2 h3 k9) (fun u q9 H locs hq1 hP hD hS => ?_)
  refine W.widen (k := 1) (n := 6) (Nat.le_of_ble_eq_true rfl) (Nat.le_of_ble_eq_true rfl) ?_
  have hP : va_P D cls [(ou, .inl (T 3, 1, .inr (.inl o))), (lo, .inr (2, [.ref ra, .ref d0, .ref b0, .ref t0, .ref r0])), (ra, .inl (T 2, 6, .inr (.inr (.inr (.inr (fun j => some (rd j)))))))] H := hP
  have hD : va_D A [(ou, .inl (T 3, 1, .inr (.inl o))), (lo, .inr (2, [.ref ra, .ref d0, .ref b0, .ref t0, .ref r0])), (ra, .inl (T 2, 6, .inr (.inr (.inr (.inr (fun j => some (rd j)))))))] := hD
  refine lv_astore (lv' := [(4, .ref q9), (0, .ref lo), (1, .int (nI i)), (2, .int j), (3, .ref ou)]) hx hb dL_isLike_20 hl (by decide) rfl (fun ls hl => ?_)
  refine lv_iconst (v := (nI 1)) hx hb dL_isLike_22 (by decide +kernel) ?_
  have hP9 := hP.sub (ws' := [(lo, .inr (2, [.ref ra, .ref d0, .ref b0, .ref t0, .ref r0])), (ra, .inl (T 2, 6, .inr (.inr (.inr (.inr (fun j => some (rd j))))))), (ou, .inl (T 3, 1, .inr (.inl o)))]) [1, 2, 0] rfl
  have hD9 := hD.sub (ws' := [(lo, .inr (2, [.ref ra, .ref d0, .ref b0, .ref t0, .ref r0])), (ra, .inl (T 2, 6, .inr (.inr (.inr (.inr (fun j => some (rd j))))))), (ou, .inl (T 3, 1, .inr (.inl o)))]) [1, 2, 0] (by decide) rfl
  refine W.widen (k := 5) (n := 1106) (by omega) (by omega) ?_
  exact W.iret (v := (nI 1)) hx hb hr (fun t ht hW => ⟨⟨(), rfl, trivial, (by rw [ht]; exact hP9), va_K.moved hW.alike hK, hD9⟩, hS.F ht⟩) hS.2.2 dL_isLike_23
set_option maxHeartbeats 4000000 in
set_option maxRecDepth 100000 in
theorem h_isLike (l : Launch) (D : va_G) (T : Nat → ClassId) (g : Nat → Nat) (sz : Nat) (lo : Nat) (ra : Nat) (d0 : Nat) (b0 : Nat) (t0 : Nat) (r0 : Nat) (rd : Nat → Nat) (i : Nat) (q0 : Nat) (f : Nat → Int32) (n : Nat) (j : Nat) (q1 : Nat) (f1 : Nat → Int32) (n1 : Nat) (b : Nat → Nat) (hb9 : RB f n b) (b1 : Nat → Nat) (hb8 : RB f1 n1 b1) (hi : i < 6) (hj : j < 6) (ou : Nat) (o : Nat → Int64) : MUN l yL_isLike wsL_isLike ({ frames := 80, cells := 5, slots := 1106, locals := 4000 } : Room) D T g [.ref lo, .int (nI i), .int (nI j), .ref ou] [(lo, .inr (2, [.ref ra, .ref d0, .ref b0, .ref t0, .ref r0])), (ra, .inl (T 2, 6, .inr (.inr (.inr (.inr (fun j => some (rd j))))))), (rd i, .inr (0, [.ref q0, .int (nI n)])), (q0, .inl (T 0, 440, .inl f)), (rd j, .inr (0, [.ref q1, .int (nI n1)])), (q1, .inl (T 0, 440, .inl f1)), (ou, .inl (T 3, 1, .inr (.inl o)))] sz (fun u : Unit => some (.int (nI 0))) (fun u : Unit => True) (fun u : Unit => [(lo, .inr (2, [.ref ra, .ref d0, .ref b0, .ref t0, .ref r0])), (ra, .inl (T 2, 6, .inr (.inr (.inr (.inr (fun j => some (rd j))))))), (rd i, .inr (0, [.ref q0, .int (nI n)])), (q0, .inl (T 0, 440, .inl f)), (rd j, .inr (0, [.ref q1, .int (nI n1)])), (q1, .inl (T 0, 440, .inl f1)), (ou, .inl (T 3, 1, .inr (.inl (vp_updL o 0 (bL (saB n b n1 b1))))))]) 5 1106 := by
  refine va_MetW (hh := [(0, 17, 20, 13)]) (cc := cL_isLike) (maxL := 5) (ret := (some .int)) (by decide) rfl ?_
  intro p e s m args below meth c s₁ B hml hv
  obtain ⟨rfl, ⟨hsz, hP, hK, hD0, hG⟩, hN⟩ := hv
  have hx := B.exec
  have hb := B.bytes
  have hr := B.returns
  have hts := atoms_spec (ws := wsL_isLike) B.pre
  have hown : s.vm.findClass RL = some m.cls := findClass_of_methodNamed B.named
  have hlocks := B.notSynchronized
  have htab : c.exceptionTable.toList = tableOf [(0, 17, 20, 13)] := vx_table (x := yL_add) B (hts _ (List.mem_of_getElem? (i := 0) rfl))
  subst hsz
  have hD := hD0.self (sz := s.heap.size)
  generalize hAe : va_A [(lo, .inr (2, [.ref ra, .ref d0, .ref b0, .ref t0, .ref r0])), (ra, .inl (T 2, 6, .inr (.inr (.inr (.inr (fun j => some (rd j))))))), (rd i, .inr (0, [.ref q0, .int (nI n)])), (q0, .inl (T 0, 440, .inl f)), (rd j, .inr (0, [.ref q1, .int (nI n1)])), (q1, .inl (T 0, 440, .inl f1)), (ou, .inl (T 3, 1, .inr (.inl o)))] s.heap.size = A at hD hG ⊢
  have hA : ∀ q : Nat, s.heap.size ≤ q → A q := fun q h => by rw [← hAe]; exact Or.inr h
  have hS : va_S A s.heap s.heap [] := va_S.rf
  have hP : va_P D cls [(lo, .inr (2, [.ref ra, .ref d0, .ref b0, .ref t0, .ref r0])), (ra, .inl (T 2, 6, .inr (.inr (.inr (.inr (fun j => some (rd j))))))), (rd i, .inr (0, [.ref q0, .int (nI n)])), (q0, .inl (T 0, 440, .inl f)), (rd j, .inr (0, [.ref q1, .int (nI n1)])), (q1, .inl (T 0, 440, .inl f1)), (ou, .inl (T 3, 1, .inr (.inl o)))] s.heap := hP
  have hl := lv_entry ([.ref lo, .int (nI i), .int (nI j), .ref ou]) (n := 5) (Nat.le_of_ble_eq_true rfl)
  rw [lg_entry_eq]
  generalize (lg_sl ([.ref lo, .int (nI i), .int (nI j), .ref ou]) ++ List.replicate (5 - (lg_sl ([.ref lo, .int (nI i), .int (nI j), .ref ou])).length) Slot.unset).toArray = ls at hl ⊢
  have hl : lv_has ls 5 [(0, .ref lo), (1, .int (nI i)), (2, .int (nI j)), (3, .ref ou)] := hl
  refine lv_aload_n hx hb dL_isLike_0 rfl (lv_at hl 3 rfl) ?_
  refine lv_iconst (v := (nI 0)) hx hb dL_isLike_1 (by decide +kernel) ?_
  refine lv_aload_n hx hb dL_isLike_2 rfl (lv_at hl 0 rfl) ?_
  refine lv_iload_n hx hb dL_isLike_3 rfl (lv_at hl 1 rfl) ?_
  refine lv_iload_n hx hb dL_isLike_4 rfl (lv_at hl 2 rfl) ?_
  refine ro_V (As := [.int (nI i), .int (nI j)]) (rest := [.int (nI 0), .ref ou]) (wc := [(lo, .inr (2, [.ref ra, .ref d0, .ref b0, .ref t0, .ref r0])), (ra, .inl (T 2, 6, .inr (.inr (.inr (.inr (fun j => some (rd j))))))), (rd i, .inr (0, [.ref q0, .int (nI n)])), (q0, .inl (T 0, 440, .inl f)), (rd j, .inr (0, [.ref q1, .int (nI n1)])), (q1, .inl (T 0, 440, .inl f1))]) (r := .int (bI (saB n b n1 b1))) ⟨hx, hb, hml, hown, hts⟩ (c_isLike l D T g lo ra d0 b0 t0 r0 rd i q0 f n j q1 f1 n1 b (hb9) b1 (hb8) (hi) (hj)) (cwV 2 hts gL_isLike_X5_isLike rfl rfl rfl (by decide +kernel) ⟨Nat.le_of_ble_eq_true rfl, Nat.le_of_ble_eq_true rfl⟩) (va_recv hK hP (ci := 2) (q0 := 0) rfl rfl) hP hK hG hS [0, 1, 2, 3, 4, 5] rfl ⟨Nat.zero_le _, Nat.zero_le _⟩ rfl hl.1 (Nat.le_of_ble_eq_true rfl) dL_isLike_5 rfl ?_
  refine lv_if_eq (tgt := 15) hx hb dL_isLike_8 (by decide) (fun c_8 => ?_) (fun c_8 => ?_)
  · refine lv_lconst (v := lN 0) hx hb dL_isLike_15 (by decide +kernel) ?_
    rw [show lN 0 = bL (saB n b n1 b1) from by rw [bI_z.mp c_8]; rfl]
    refine va_last hx hb hK hP hD hS 6 3 rfl rfl (vp_in_nI (by omega) (by omega)) dL_isLike_16 (fun H locs hP hD hS => ?_)
    rw [nI_clamp (by omega)] at hP hD
    have hP : va_P D cls [(lo, .inr (2, [.ref ra, .ref d0, .ref b0, .ref t0, .ref r0])), (ra, .inl (T 2, 6, .inr (.inr (.inr (.inr (fun j => some (rd j))))))), (rd i, .inr (0, [.ref q0, .int (nI n)])), (q0, .inl (T 0, 440, .inl f)), (rd j, .inr (0, [.ref q1, .int (nI n1)])), (q1, .inl (T 0, 440, .inl f1)), (ou, .inl (T 3, 1, .inr (.inl (vp_updL o 0 (bL (saB n b n1 b1))))))] H := hP
    have hD : va_D A [(lo, .inr (2, [.ref ra, .ref d0, .ref b0, .ref t0, .ref r0])), (ra, .inl (T 2, 6, .inr (.inr (.inr (.inr (fun j => some (rd j))))))), (rd i, .inr (0, [.ref q0, .int (nI n)])), (q0, .inl (T 0, 440, .inl f)), (rd j, .inr (0, [.ref q1, .int (nI n1)])), (q1, .inl (T 0, 440, .inl f1)), (ou, .inl (T 3, 1, .inr (.inl (vp_updL o 0 (bL (saB n b n1 b1))))))] := hD
    refine lv_goto (tgt := 24) hx hb dL_isLike_17 (by decide) ?_
    refine lv_iconst (v := (nI 0)) hx hb dL_isLike_24 (by decide +kernel) ?_
    have hP9 := hP.sub (ws' := [(lo, .inr (2, [.ref ra, .ref d0, .ref b0, .ref t0, .ref r0])), (ra, .inl (T 2, 6, .inr (.inr (.inr (.inr (fun j => some (rd j))))))), (rd i, .inr (0, [.ref q0, .int (nI n)])), (q0, .inl (T 0, 440, .inl f)), (rd j, .inr (0, [.ref q1, .int (nI n1)])), (q1, .inl (T 0, 440, .inl f1)), (ou, .inl (T 3, 1, .inr (.inl (vp_updL o 0 (bL (saB n b n1 b1))))))]) [0, 1, 2, 3, 4, 5, 6] rfl
    have hD9 := hD.sub (ws' := [(lo, .inr (2, [.ref ra, .ref d0, .ref b0, .ref t0, .ref r0])), (ra, .inl (T 2, 6, .inr (.inr (.inr (.inr (fun j => some (rd j))))))), (rd i, .inr (0, [.ref q0, .int (nI n)])), (q0, .inl (T 0, 440, .inl f)), (rd j, .inr (0, [.ref q1, .int (nI n1)])), (q1, .inl (T 0, 440, .inl f1)), (ou, .inl (T 3, 1, .inr (.inl (vp_updL o 0 (bL (saB n b n1 b1))))))]) [0, 1, 2, 3, 4, 5, 6] (by decide) rfl
    refine W.widen (k := 5) (n := 1106) (by omega) (by omega) ?_
    exact W.iret (v := (nI 0)) hx hb hr (fun t ht hW => ⟨⟨(), rfl, trivial, (by rw [ht]; exact hP9), va_K.moved hW.alike hK, hD9⟩, hS.F ht⟩) hS.2.2 dL_isLike_25
  · refine lv_lconst (v := lN 1) hx hb dL_isLike_11 (by decide +kernel) ?_
    refine lv_goto (tgt := 16) hx hb dL_isLike_12 (by decide) ?_
    rw [show lN 1 = bL (saB n b n1 b1) from by rw [bI_nz.mp c_8]; rfl]
    refine va_last hx hb hK hP hD hS 6 3 rfl rfl (vp_in_nI (by omega) (by omega)) dL_isLike_16 (fun H locs hP hD hS => ?_)
    rw [nI_clamp (by omega)] at hP hD
    have hP : va_P D cls [(lo, .inr (2, [.ref ra, .ref d0, .ref b0, .ref t0, .ref r0])), (ra, .inl (T 2, 6, .inr (.inr (.inr (.inr (fun j => some (rd j))))))), (rd i, .inr (0, [.ref q0, .int (nI n)])), (q0, .inl (T 0, 440, .inl f)), (rd j, .inr (0, [.ref q1, .int (nI n1)])), (q1, .inl (T 0, 440, .inl f1)), (ou, .inl (T 3, 1, .inr (.inl (vp_updL o 0 (bL (saB n b n1 b1))))))] H := hP
    have hD : va_D A [(lo, .inr (2, [.ref ra, .ref d0, .ref b0, .ref t0, .ref r0])), (ra, .inl (T 2, 6, .inr (.inr (.inr (.inr (fun j => some (rd j))))))), (rd i, .inr (0, [.ref q0, .int (nI n)])), (q0, .inl (T 0, 440, .inl f)), (rd j, .inr (0, [.ref q1, .int (nI n1)])), (q1, .inl (T 0, 440, .inl f1)), (ou, .inl (T 3, 1, .inr (.inl (vp_updL o 0 (bL (saB n b n1 b1))))))] := hD
    refine lv_goto (tgt := 24) hx hb dL_isLike_17 (by decide) ?_
    refine lv_iconst (v := (nI 0)) hx hb dL_isLike_24 (by decide +kernel) ?_
    have hP9 := hP.sub (ws' := [(lo, .inr (2, [.ref ra, .ref d0, .ref b0, .ref t0, .ref r0])), (ra, .inl (T 2, 6, .inr (.inr (.inr (.inr (fun j => some (rd j))))))), (rd i, .inr (0, [.ref q0, .int (nI n)])), (q0, .inl (T 0, 440, .inl f)), (rd j, .inr (0, [.ref q1, .int (nI n1)])), (q1, .inl (T 0, 440, .inl f1)), (ou, .inl (T 3, 1, .inr (.inl (vp_updL o 0 (bL (saB n b n1 b1))))))]) [0, 1, 2, 3, 4, 5, 6] rfl
    have hD9 := hD.sub (ws' := [(lo, .inr (2, [.ref ra, .ref d0, .ref b0, .ref t0, .ref r0])), (ra, .inl (T 2, 6, .inr (.inr (.inr (.inr (fun j => some (rd j))))))), (rd i, .inr (0, [.ref q0, .int (nI n)])), (q0, .inl (T 0, 440, .inl f)), (rd j, .inr (0, [.ref q1, .int (nI n1)])), (q1, .inl (T 0, 440, .inl f1)), (ou, .inl (T 3, 1, .inr (.inl (vp_updL o 0 (bL (saB n b n1 b1))))))]) [0, 1, 2, 3, 4, 5, 6] (by decide) rfl
    refine W.widen (k := 5) (n := 1106) (by omega) (by omega) ?_
    exact W.iret (v := (nI 0)) hx hb hr (fun t ht hW => ⟨⟨(), rfl, trivial, (by rw [ht]; exact hP9), va_K.moved hW.alike hK, hD9⟩, hS.F ht⟩) hS.2.2 dL_isLike_25
set_option maxHeartbeats 4000000 in
set_option maxRecDepth 100000 in
theorem h_isLike_a (l : Launch) (D : va_G) (T : Nat → ClassId) (g : Nat → Nat) (sz : Nat) (lo : Nat) (ra : Nat) (d0 : Nat) (b0 : Nat) (t0 : Nat) (r0 : Nat) (rd : Nat → Nat) (i : Nat) (q0 : Nat) (f : Nat → Int32) (n : Nat) (b : Nat → Nat) (hb9 : RB f n b) (hi : i < 6) (ou : Nat) (o : Nat → Int64) : MUN l yL_isLike wsL_isLike ({ frames := 80, cells := 5, slots := 1106, locals := 4000 } : Room) D T g [.ref lo, .int (nI i), .int (nI i), .ref ou] [(lo, .inr (2, [.ref ra, .ref d0, .ref b0, .ref t0, .ref r0])), (ra, .inl (T 2, 6, .inr (.inr (.inr (.inr (fun j => some (rd j))))))), (rd i, .inr (0, [.ref q0, .int (nI n)])), (q0, .inl (T 0, 440, .inl f)), (ou, .inl (T 3, 1, .inr (.inl o)))] sz (fun u : Unit => some (.int (nI 0))) (fun u : Unit => True) (fun u : Unit => [(lo, .inr (2, [.ref ra, .ref d0, .ref b0, .ref t0, .ref r0])), (ra, .inl (T 2, 6, .inr (.inr (.inr (.inr (fun j => some (rd j))))))), (rd i, .inr (0, [.ref q0, .int (nI n)])), (q0, .inl (T 0, 440, .inl f)), (ou, .inl (T 3, 1, .inr (.inl (vp_updL o 0 (lN 1)))))]) 5 1106 := by
  refine va_MetW (hh := [(0, 17, 20, 13)]) (cc := cL_isLike) (maxL := 5) (ret := (some .int)) (by decide) rfl ?_
  intro p e s m args below meth c s₁ B hml hv
  obtain ⟨rfl, ⟨hsz, hP, hK, hD0, hG⟩, hN⟩ := hv
  have hx := B.exec
  have hb := B.bytes
  have hr := B.returns
  have hts := atoms_spec (ws := wsL_isLike) B.pre
  have hown : s.vm.findClass RL = some m.cls := findClass_of_methodNamed B.named
  have hlocks := B.notSynchronized
  have htab : c.exceptionTable.toList = tableOf [(0, 17, 20, 13)] := vx_table (x := yL_add) B (hts _ (List.mem_of_getElem? (i := 0) rfl))
  subst hsz
  have hD := hD0.self (sz := s.heap.size)
  generalize hAe : va_A [(lo, .inr (2, [.ref ra, .ref d0, .ref b0, .ref t0, .ref r0])), (ra, .inl (T 2, 6, .inr (.inr (.inr (.inr (fun j => some (rd j))))))), (rd i, .inr (0, [.ref q0, .int (nI n)])), (q0, .inl (T 0, 440, .inl f)), (ou, .inl (T 3, 1, .inr (.inl o)))] s.heap.size = A at hD hG ⊢
  have hA : ∀ q : Nat, s.heap.size ≤ q → A q := fun q h => by rw [← hAe]; exact Or.inr h
  have hS : va_S A s.heap s.heap [] := va_S.rf
  have hP : va_P D cls [(lo, .inr (2, [.ref ra, .ref d0, .ref b0, .ref t0, .ref r0])), (ra, .inl (T 2, 6, .inr (.inr (.inr (.inr (fun j => some (rd j))))))), (rd i, .inr (0, [.ref q0, .int (nI n)])), (q0, .inl (T 0, 440, .inl f)), (ou, .inl (T 3, 1, .inr (.inl o)))] s.heap := hP
  have hl := lv_entry ([.ref lo, .int (nI i), .int (nI i), .ref ou]) (n := 5) (Nat.le_of_ble_eq_true rfl)
  rw [lg_entry_eq]
  generalize (lg_sl ([.ref lo, .int (nI i), .int (nI i), .ref ou]) ++ List.replicate (5 - (lg_sl ([.ref lo, .int (nI i), .int (nI i), .ref ou])).length) Slot.unset).toArray = ls at hl ⊢
  have hl : lv_has ls 5 [(0, .ref lo), (1, .int (nI i)), (2, .int (nI i)), (3, .ref ou)] := hl
  refine lv_aload_n hx hb dL_isLike_0 rfl (lv_at hl 3 rfl) ?_
  refine lv_iconst (v := (nI 0)) hx hb dL_isLike_1 (by decide +kernel) ?_
  refine lv_aload_n hx hb dL_isLike_2 rfl (lv_at hl 0 rfl) ?_
  refine lv_iload_n hx hb dL_isLike_3 rfl (lv_at hl 1 rfl) ?_
  refine lv_iload_n hx hb dL_isLike_4 rfl (lv_at hl 2 rfl) ?_
  refine ro_V (As := [.int (nI i), .int (nI i)]) (rest := [.int (nI 0), .ref ou]) (wc := [(lo, .inr (2, [.ref ra, .ref d0, .ref b0, .ref t0, .ref r0])), (ra, .inl (T 2, 6, .inr (.inr (.inr (.inr (fun j => some (rd j))))))), (rd i, .inr (0, [.ref q0, .int (nI n)])), (q0, .inl (T 0, 440, .inl f))]) (r := .int (nI 1)) ⟨hx, hb, hml, hown, hts⟩ (c_isLike_a l D T g lo ra d0 b0 t0 r0 rd i q0 f n b (hb9) (hi)) (cwV 2 hts gL_isLike_X5_isLike rfl rfl rfl (by decide +kernel) ⟨Nat.le_of_ble_eq_true rfl, Nat.le_of_ble_eq_true rfl⟩) (va_recv hK hP (ci := 2) (q0 := 0) rfl rfl) hP hK hG hS [0, 1, 2, 3] rfl ⟨Nat.zero_le _, Nat.zero_le _⟩ rfl hl.1 (Nat.le_of_ble_eq_true rfl) dL_isLike_5 rfl ?_
  refine ln_if_eq_f (tgt := 15) hx hb (by omega) (by decide) dL_isLike_8 (by decide) ?_
  refine lv_lconst (v := lN 1) hx hb dL_isLike_11 (by decide +kernel) ?_
  refine lv_goto (tgt := 16) hx hb dL_isLike_12 (by decide) ?_
  refine va_last hx hb hK hP hD hS 4 3 rfl rfl (vp_in_nI (by omega) (by omega)) dL_isLike_16 (fun H locs hP hD hS => ?_)
  rw [nI_clamp (by omega)] at hP hD
  have hP : va_P D cls [(lo, .inr (2, [.ref ra, .ref d0, .ref b0, .ref t0, .ref r0])), (ra, .inl (T 2, 6, .inr (.inr (.inr (.inr (fun j => some (rd j))))))), (rd i, .inr (0, [.ref q0, .int (nI n)])), (q0, .inl (T 0, 440, .inl f)), (ou, .inl (T 3, 1, .inr (.inl (vp_updL o 0 (lN 1)))))] H := hP
  have hD : va_D A [(lo, .inr (2, [.ref ra, .ref d0, .ref b0, .ref t0, .ref r0])), (ra, .inl (T 2, 6, .inr (.inr (.inr (.inr (fun j => some (rd j))))))), (rd i, .inr (0, [.ref q0, .int (nI n)])), (q0, .inl (T 0, 440, .inl f)), (ou, .inl (T 3, 1, .inr (.inl (vp_updL o 0 (lN 1)))))] := hD
  refine lv_goto (tgt := 24) hx hb dL_isLike_17 (by decide) ?_
  refine lv_iconst (v := (nI 0)) hx hb dL_isLike_24 (by decide +kernel) ?_
  have hP9 := hP.sub (ws' := [(lo, .inr (2, [.ref ra, .ref d0, .ref b0, .ref t0, .ref r0])), (ra, .inl (T 2, 6, .inr (.inr (.inr (.inr (fun j => some (rd j))))))), (rd i, .inr (0, [.ref q0, .int (nI n)])), (q0, .inl (T 0, 440, .inl f)), (ou, .inl (T 3, 1, .inr (.inl (vp_updL o 0 (lN 1)))))]) [0, 1, 2, 3, 4] rfl
  have hD9 := hD.sub (ws' := [(lo, .inr (2, [.ref ra, .ref d0, .ref b0, .ref t0, .ref r0])), (ra, .inl (T 2, 6, .inr (.inr (.inr (.inr (fun j => some (rd j))))))), (rd i, .inr (0, [.ref q0, .int (nI n)])), (q0, .inl (T 0, 440, .inl f)), (ou, .inl (T 3, 1, .inr (.inl (vp_updL o 0 (lN 1)))))]) [0, 1, 2, 3, 4] (by decide) rfl
  refine W.widen (k := 5) (n := 1106) (by omega) (by omega) ?_
  exact W.iret (v := (nI 0)) hx hb hr (fun t ht hW => ⟨⟨(), rfl, trivial, (by rw [ht]; exact hP9), va_K.moved hW.alike hK, hD9⟩, hS.F ht⟩) hS.2.2 dL_isLike_25
set_option maxHeartbeats 4000000 in
set_option maxRecDepth 100000 in
theorem h_write_x1 (l : Launch) (D : va_G) (T : Nat → ClassId) (g : Nat → Nat) (sz : Nat) (hl9 : l.stackTraces = false) (lo : Nat) (ra : Nat) (d0 : Nat) (b0 : Nat) (t0 : Nat) (r0 : Nat) (rd : Nat → Nat) (i : Int32) (hi : i < 0 ∨ ¬ i < nI 6) (x0 : Int32) (x1 : Int32) (x2 : Int32) (ou : Nat) (o : Nat → Int64) : MUN l yL_write wsL_write ({ frames := 80, cells := 5, slots := 1106, locals := 4000 } : Room) D T g [.ref lo, .int i, .int x0, .int x1, .int x2, .ref ou] [(lo, .inr (2, [.ref ra, .ref d0, .ref b0, .ref t0, .ref r0])), (ra, .inl (T 2, 6, .inr (.inr (.inr (.inr (fun j => some (rd j))))))), (ou, .inl (T 3, 1, .inr (.inl o)))] sz (fun u : Unit => some (.int (nI 1))) (fun u : Unit => True) (fun u : Unit => [(lo, .inr (2, [.ref ra, .ref d0, .ref b0, .ref t0, .ref r0])), (ra, .inl (T 2, 6, .inr (.inr (.inr (.inr (fun j => some (rd j))))))), (ou, .inl (T 3, 1, .inr (.inl o)))]) 5 1106 := by
  refine va_MetW (hh := [(0, 14, 17, 13), (0, 14, 21, 15), (0, 14, 25, 17)]) (cc := cL_write) (maxL := 7) (ret := (some .int)) (by decide) rfl ?_
  intro p e s m args below meth c s₁ B hml hv
  obtain ⟨rfl, ⟨hsz, hP, hK, hD0, hG⟩, hN⟩ := hv
  have hx := B.exec
  have hb := B.bytes
  have hr := B.returns
  have hts := atoms_spec (ws := wsL_write) B.pre
  have hown : s.vm.findClass RL = some m.cls := findClass_of_methodNamed B.named
  have hlocks := B.notSynchronized
  have htab : c.exceptionTable.toList = tableOf [(0, 14, 17, 13), (0, 14, 21, 15), (0, 14, 25, 17)] := vx_table (x := yL_add) B (hts _ (List.mem_of_getElem? (i := 0) rfl))
  subst hsz
  have hD := hD0.self (sz := s.heap.size)
  generalize hAe : va_A [(lo, .inr (2, [.ref ra, .ref d0, .ref b0, .ref t0, .ref r0])), (ra, .inl (T 2, 6, .inr (.inr (.inr (.inr (fun j => some (rd j))))))), (ou, .inl (T 3, 1, .inr (.inl o)))] s.heap.size = A at hD hG ⊢
  have hA : ∀ q : Nat, s.heap.size ≤ q → A q := fun q h => by rw [← hAe]; exact Or.inr h
  have hS : va_S A s.heap s.heap [] := va_S.rf
  have hP : va_P D cls [(lo, .inr (2, [.ref ra, .ref d0, .ref b0, .ref t0, .ref r0])), (ra, .inl (T 2, 6, .inr (.inr (.inr (.inr (fun j => some (rd j))))))), (ou, .inl (T 3, 1, .inr (.inl o)))] s.heap := hP
  have hl := lv_entry ([.ref lo, .int i, .int x0, .int x1, .int x2, .ref ou]) (n := 7) (Nat.le_of_ble_eq_true rfl)
  rw [lg_entry_eq]
  generalize (lg_sl ([.ref lo, .int i, .int x0, .int x1, .int x2, .ref ou]) ++ List.replicate (7 - (lg_sl ([.ref lo, .int i, .int x0, .int x1, .int x2, .ref ou])).length) Slot.unset).toArray = ls at hl ⊢
  have hl : lv_has ls 7 [(0, .ref lo), (1, .int i), (2, .int x0), (3, .int x1), (4, .int x2), (5, .ref ou)] := hl
  refine lv_aload hx hb dL_write_0 (lv_at hl 5 rfl) ?_
  refine lv_iconst (v := (nI 0)) hx hb dL_write_2 (by decide +kernel) ?_
  refine lv_aload_n hx hb dL_write_3 rfl (lv_at hl 0 rfl) ?_
  refine lv_iload_n hx hb dL_write_4 rfl (lv_at hl 1 rfl) ?_
  refine lv_iload_n hx hb dL_write_5 rfl (lv_at hl 2 rfl) ?_
  refine lv_iload_n hx hb dL_write_6 rfl (lv_at hl 3 rfl) ?_
  refine lv_iload hx hb dL_write_7 (lv_at hl 4 rfl) ?_
  refine tc_V (hpc := 17) (As := [.int i, .int x0, .int x1, .int x2]) (rest := [.int (nI 0), .ref ou]) (wc := [(lo, .inr (2, [.ref ra, .ref d0, .ref b0, .ref t0, .ref r0])), (ra, .inl (T 2, 6, .inr (.inr (.inr (.inr (fun j => some (rd j)))))))]) (wr := [(ou, .inl (T 3, 1, .inr (.inl o)))]) ⟨hx, hb, hml, hown, hts⟩ (c_write_x1 l D T g s.heap.size (hl9) lo ra d0 b0 t0 r0 rd i (hi) x0 x1 x2) (cwV 4 hts gL_write_X5_write rfl rfl rfl (by decide +kernel) ⟨Nat.le_of_ble_eq_true rfl, Nat.le_of_ble_eq_true rfl⟩) (va_recv hK hP (ci := 2) (q0 := 0) rfl rfl) hP hD hK hG hS hA [0, 1] [2] rfl (by decide) rfl (by decide) (by decide) ⟨Nat.le_of_ble_eq_true rfl, Nat.le_of_ble_eq_true rfl⟩ rfl hl.1 (Nat.le_of_ble_eq_true rfl) dL_write_9 rfl (fun H1 locs1 q9 ce h1 h2 h3 k9 => vx_catch (name := "java/lang/IndexOutOfBoundsException") hown [] ⟨0, 14, 17, 13⟩ [⟨0, 14, 21, 15⟩, ⟨0, 14, 25, 17⟩] (htab.trans rfl) (fun _ h => absurd h List.not_mem_nil) (by decide) (by decide) (hts _ (List.mem_of_getElem? (i := 1) rfl)) (va_Yc.word (hN.2 _ (List.mem_of_getElem? (i := 0) rfl))) h1 h2 h3 k9) (fun u q9 H locs hq1 hP hD hS => ?_)
  refine W.widen (k := 1) (n := 6) (Nat.le_of_ble_eq_true rfl) (Nat.le_of_ble_eq_true rfl) ?_
  have hP : va_P D cls [(ou, .inl (T 3, 1, .inr (.inl o))), (lo, .inr (2, [.ref ra, .ref d0, .ref b0, .ref t0, .ref r0])), (ra, .inl (T 2, 6, .inr (.inr (.inr (.inr (fun j => some (rd j)))))))] H := hP
  have hD : va_D A [(ou, .inl (T 3, 1, .inr (.inl o))), (lo, .inr (2, [.ref ra, .ref d0, .ref b0, .ref t0, .ref r0])), (ra, .inl (T 2, 6, .inr (.inr (.inr (.inr (fun j => some (rd j)))))))] := hD
  refine lv_astore (lv' := [(6, .ref q9), (0, .ref lo), (1, .int i), (2, .int x0), (3, .int x1), (4, .int x2), (5, .ref ou)]) hx hb dL_write_17 hl (by decide) rfl (fun ls hl => ?_)
  refine lv_iconst (v := (nI 1)) hx hb dL_write_19 (by decide +kernel) ?_
  have hP9 := hP.sub (ws' := [(lo, .inr (2, [.ref ra, .ref d0, .ref b0, .ref t0, .ref r0])), (ra, .inl (T 2, 6, .inr (.inr (.inr (.inr (fun j => some (rd j))))))), (ou, .inl (T 3, 1, .inr (.inl o)))]) [1, 2, 0] rfl
  have hD9 := hD.sub (ws' := [(lo, .inr (2, [.ref ra, .ref d0, .ref b0, .ref t0, .ref r0])), (ra, .inl (T 2, 6, .inr (.inr (.inr (.inr (fun j => some (rd j))))))), (ou, .inl (T 3, 1, .inr (.inl o)))]) [1, 2, 0] (by decide) rfl
  refine W.widen (k := 5) (n := 1106) (by omega) (by omega) ?_
  exact W.iret (v := (nI 1)) hx hb hr (fun t ht hW => ⟨⟨(), rfl, trivial, (by rw [ht]; exact hP9), va_K.moved hW.alike hK, hD9⟩, hS.F ht⟩) hS.2.2 dL_write_20
set_option maxHeartbeats 4000000 in
set_option maxRecDepth 100000 in
theorem h_write_x2 (l : Launch) (D : va_G) (T : Nat → ClassId) (g : Nat → Nat) (sz : Nat) (hl9 : l.stackTraces = false) (lo : Nat) (ra : Nat) (d0 : Nat) (b0 : Nat) (t0 : Nat) (r0 : Nat) (rd : Nat → Nat) (i : Nat) (hi : i < 6) (j : Int32) (hj : j < 0 ∨ ¬ j < nI 6) (x0 : Int32) (x1 : Int32) (ou : Nat) (o : Nat → Int64) : MUN l yL_write wsL_write ({ frames := 80, cells := 5, slots := 1106, locals := 4000 } : Room) D T g [.ref lo, .int (nI i), .int j, .int x0, .int x1, .ref ou] [(lo, .inr (2, [.ref ra, .ref d0, .ref b0, .ref t0, .ref r0])), (ra, .inl (T 2, 6, .inr (.inr (.inr (.inr (fun j => some (rd j))))))), (ou, .inl (T 3, 1, .inr (.inl o)))] sz (fun u : Unit => some (.int (nI 1))) (fun u : Unit => True) (fun u : Unit => [(lo, .inr (2, [.ref ra, .ref d0, .ref b0, .ref t0, .ref r0])), (ra, .inl (T 2, 6, .inr (.inr (.inr (.inr (fun j => some (rd j))))))), (ou, .inl (T 3, 1, .inr (.inl o)))]) 5 1106 := by
  refine va_MetW (hh := [(0, 14, 17, 13), (0, 14, 21, 15), (0, 14, 25, 17)]) (cc := cL_write) (maxL := 7) (ret := (some .int)) (by decide) rfl ?_
  intro p e s m args below meth c s₁ B hml hv
  obtain ⟨rfl, ⟨hsz, hP, hK, hD0, hG⟩, hN⟩ := hv
  have hx := B.exec
  have hb := B.bytes
  have hr := B.returns
  have hts := atoms_spec (ws := wsL_write) B.pre
  have hown : s.vm.findClass RL = some m.cls := findClass_of_methodNamed B.named
  have hlocks := B.notSynchronized
  have htab : c.exceptionTable.toList = tableOf [(0, 14, 17, 13), (0, 14, 21, 15), (0, 14, 25, 17)] := vx_table (x := yL_add) B (hts _ (List.mem_of_getElem? (i := 0) rfl))
  subst hsz
  have hD := hD0.self (sz := s.heap.size)
  generalize hAe : va_A [(lo, .inr (2, [.ref ra, .ref d0, .ref b0, .ref t0, .ref r0])), (ra, .inl (T 2, 6, .inr (.inr (.inr (.inr (fun j => some (rd j))))))), (ou, .inl (T 3, 1, .inr (.inl o)))] s.heap.size = A at hD hG ⊢
  have hA : ∀ q : Nat, s.heap.size ≤ q → A q := fun q h => by rw [← hAe]; exact Or.inr h
  have hS : va_S A s.heap s.heap [] := va_S.rf
  have hP : va_P D cls [(lo, .inr (2, [.ref ra, .ref d0, .ref b0, .ref t0, .ref r0])), (ra, .inl (T 2, 6, .inr (.inr (.inr (.inr (fun j => some (rd j))))))), (ou, .inl (T 3, 1, .inr (.inl o)))] s.heap := hP
  have hl := lv_entry ([.ref lo, .int (nI i), .int j, .int x0, .int x1, .ref ou]) (n := 7) (Nat.le_of_ble_eq_true rfl)
  rw [lg_entry_eq]
  generalize (lg_sl ([.ref lo, .int (nI i), .int j, .int x0, .int x1, .ref ou]) ++ List.replicate (7 - (lg_sl ([.ref lo, .int (nI i), .int j, .int x0, .int x1, .ref ou])).length) Slot.unset).toArray = ls at hl ⊢
  have hl : lv_has ls 7 [(0, .ref lo), (1, .int (nI i)), (2, .int j), (3, .int x0), (4, .int x1), (5, .ref ou)] := hl
  refine lv_aload hx hb dL_write_0 (lv_at hl 5 rfl) ?_
  refine lv_iconst (v := (nI 0)) hx hb dL_write_2 (by decide +kernel) ?_
  refine lv_aload_n hx hb dL_write_3 rfl (lv_at hl 0 rfl) ?_
  refine lv_iload_n hx hb dL_write_4 rfl (lv_at hl 1 rfl) ?_
  refine lv_iload_n hx hb dL_write_5 rfl (lv_at hl 2 rfl) ?_
  refine lv_iload_n hx hb dL_write_6 rfl (lv_at hl 3 rfl) ?_
  refine lv_iload hx hb dL_write_7 (lv_at hl 4 rfl) ?_
  refine tc_V (hpc := 17) (As := [.int (nI i), .int j, .int x0, .int x1]) (rest := [.int (nI 0), .ref ou]) (wc := [(lo, .inr (2, [.ref ra, .ref d0, .ref b0, .ref t0, .ref r0])), (ra, .inl (T 2, 6, .inr (.inr (.inr (.inr (fun j => some (rd j)))))))]) (wr := [(ou, .inl (T 3, 1, .inr (.inl o)))]) ⟨hx, hb, hml, hown, hts⟩ (c_write_x2 l D T g s.heap.size (hl9) lo ra d0 b0 t0 r0 rd i (hi) j (hj) x0 x1) (cwV 4 hts gL_write_X5_write rfl rfl rfl (by decide +kernel) ⟨Nat.le_of_ble_eq_true rfl, Nat.le_of_ble_eq_true rfl⟩) (va_recv hK hP (ci := 2) (q0 := 0) rfl rfl) hP hD hK hG hS hA [0, 1] [2] rfl (by decide) rfl (by decide) (by decide) ⟨Nat.le_of_ble_eq_true rfl, Nat.le_of_ble_eq_true rfl⟩ rfl hl.1 (Nat.le_of_ble_eq_true rfl) dL_write_9 rfl (fun H1 locs1 q9 ce h1 h2 h3 k9 => vx_catch (name := "java/lang/IndexOutOfBoundsException") hown [] ⟨0, 14, 17, 13⟩ [⟨0, 14, 21, 15⟩, ⟨0, 14, 25, 17⟩] (htab.trans rfl) (fun _ h => absurd h List.not_mem_nil) (by decide) (by decide) (hts _ (List.mem_of_getElem? (i := 1) rfl)) (va_Yc.word (hN.2 _ (List.mem_of_getElem? (i := 0) rfl))) h1 h2 h3 k9) (fun u q9 H locs hq1 hP hD hS => ?_)
  refine W.widen (k := 1) (n := 6) (Nat.le_of_ble_eq_true rfl) (Nat.le_of_ble_eq_true rfl) ?_
  have hP : va_P D cls [(ou, .inl (T 3, 1, .inr (.inl o))), (lo, .inr (2, [.ref ra, .ref d0, .ref b0, .ref t0, .ref r0])), (ra, .inl (T 2, 6, .inr (.inr (.inr (.inr (fun j => some (rd j)))))))] H := hP
  have hD : va_D A [(ou, .inl (T 3, 1, .inr (.inl o))), (lo, .inr (2, [.ref ra, .ref d0, .ref b0, .ref t0, .ref r0])), (ra, .inl (T 2, 6, .inr (.inr (.inr (.inr (fun j => some (rd j)))))))] := hD
  refine lv_astore (lv' := [(6, .ref q9), (0, .ref lo), (1, .int (nI i)), (2, .int j), (3, .int x0), (4, .int x1), (5, .ref ou)]) hx hb dL_write_17 hl (by decide) rfl (fun ls hl => ?_)
  refine lv_iconst (v := (nI 1)) hx hb dL_write_19 (by decide +kernel) ?_
  have hP9 := hP.sub (ws' := [(lo, .inr (2, [.ref ra, .ref d0, .ref b0, .ref t0, .ref r0])), (ra, .inl (T 2, 6, .inr (.inr (.inr (.inr (fun j => some (rd j))))))), (ou, .inl (T 3, 1, .inr (.inl o)))]) [1, 2, 0] rfl
  have hD9 := hD.sub (ws' := [(lo, .inr (2, [.ref ra, .ref d0, .ref b0, .ref t0, .ref r0])), (ra, .inl (T 2, 6, .inr (.inr (.inr (.inr (fun j => some (rd j))))))), (ou, .inl (T 3, 1, .inr (.inl o)))]) [1, 2, 0] (by decide) rfl
  refine W.widen (k := 5) (n := 1106) (by omega) (by omega) ?_
  exact W.iret (v := (nI 1)) hx hb hr (fun t ht hW => ⟨⟨(), rfl, trivial, (by rw [ht]; exact hP9), va_K.moved hW.alike hK, hD9⟩, hS.F ht⟩) hS.2.2 dL_write_20
set_option maxHeartbeats 4000000 in
set_option maxRecDepth 100000 in
theorem h_write_x3 (l : Launch) (D : va_G) (T : Nat → ClassId) (g : Nat → Nat) (sz : Nat) (hl9 : l.stackTraces = false) (lo : Nat) (ra : Nat) (d0 : Nat) (b0 : Nat) (t0 : Nat) (r0 : Nat) (rd : Nat → Nat) (i : Nat) (j : Nat) (hi : i < 6) (hj : j < 6) (k : Int32) (hk : k < 0 ∨ ¬ k < nI 3) (x0 : Int32) (ou : Nat) (o : Nat → Int64) : MUN l yL_write wsL_write ({ frames := 80, cells := 5, slots := 1106, locals := 4000 } : Room) D T g [.ref lo, .int (nI i), .int (nI j), .int k, .int x0, .ref ou] [(lo, .inr (2, [.ref ra, .ref d0, .ref b0, .ref t0, .ref r0])), (ra, .inl (T 2, 6, .inr (.inr (.inr (.inr (fun j => some (rd j))))))), (ou, .inl (T 3, 1, .inr (.inl o)))] sz (fun u : Unit => some (.int (nI 2))) (fun u : Unit => True) (fun u : Unit => [(lo, .inr (2, [.ref ra, .ref d0, .ref b0, .ref t0, .ref r0])), (ra, .inl (T 2, 6, .inr (.inr (.inr (.inr (fun j => some (rd j))))))), (ou, .inl (T 3, 1, .inr (.inl o)))]) 5 1106 := by
  refine va_MetW (hh := [(0, 14, 17, 13), (0, 14, 21, 15), (0, 14, 25, 17)]) (cc := cL_write) (maxL := 7) (ret := (some .int)) (by decide) rfl ?_
  intro p e s m args below meth c s₁ B hml hv
  obtain ⟨rfl, ⟨hsz, hP, hK, hD0, hG⟩, hN⟩ := hv
  have hx := B.exec
  have hb := B.bytes
  have hr := B.returns
  have hts := atoms_spec (ws := wsL_write) B.pre
  have hown : s.vm.findClass RL = some m.cls := findClass_of_methodNamed B.named
  have hlocks := B.notSynchronized
  have htab : c.exceptionTable.toList = tableOf [(0, 14, 17, 13), (0, 14, 21, 15), (0, 14, 25, 17)] := vx_table (x := yL_add) B (hts _ (List.mem_of_getElem? (i := 0) rfl))
  subst hsz
  have hD := hD0.self (sz := s.heap.size)
  generalize hAe : va_A [(lo, .inr (2, [.ref ra, .ref d0, .ref b0, .ref t0, .ref r0])), (ra, .inl (T 2, 6, .inr (.inr (.inr (.inr (fun j => some (rd j))))))), (ou, .inl (T 3, 1, .inr (.inl o)))] s.heap.size = A at hD hG ⊢
  have hA : ∀ q : Nat, s.heap.size ≤ q → A q := fun q h => by rw [← hAe]; exact Or.inr h
  have hS : va_S A s.heap s.heap [] := va_S.rf
  have hP : va_P D cls [(lo, .inr (2, [.ref ra, .ref d0, .ref b0, .ref t0, .ref r0])), (ra, .inl (T 2, 6, .inr (.inr (.inr (.inr (fun j => some (rd j))))))), (ou, .inl (T 3, 1, .inr (.inl o)))] s.heap := hP
  have hl := lv_entry ([.ref lo, .int (nI i), .int (nI j), .int k, .int x0, .ref ou]) (n := 7) (Nat.le_of_ble_eq_true rfl)
  rw [lg_entry_eq]
  generalize (lg_sl ([.ref lo, .int (nI i), .int (nI j), .int k, .int x0, .ref ou]) ++ List.replicate (7 - (lg_sl ([.ref lo, .int (nI i), .int (nI j), .int k, .int x0, .ref ou])).length) Slot.unset).toArray = ls at hl ⊢
  have hl : lv_has ls 7 [(0, .ref lo), (1, .int (nI i)), (2, .int (nI j)), (3, .int k), (4, .int x0), (5, .ref ou)] := hl
  refine lv_aload hx hb dL_write_0 (lv_at hl 5 rfl) ?_
  refine lv_iconst (v := (nI 0)) hx hb dL_write_2 (by decide +kernel) ?_
  refine lv_aload_n hx hb dL_write_3 rfl (lv_at hl 0 rfl) ?_
  refine lv_iload_n hx hb dL_write_4 rfl (lv_at hl 1 rfl) ?_
  refine lv_iload_n hx hb dL_write_5 rfl (lv_at hl 2 rfl) ?_
  refine lv_iload_n hx hb dL_write_6 rfl (lv_at hl 3 rfl) ?_
  refine lv_iload hx hb dL_write_7 (lv_at hl 4 rfl) ?_
  refine tc_V (hpc := 21) (As := [.int (nI i), .int (nI j), .int k, .int x0]) (rest := [.int (nI 0), .ref ou]) (wc := [(lo, .inr (2, [.ref ra, .ref d0, .ref b0, .ref t0, .ref r0])), (ra, .inl (T 2, 6, .inr (.inr (.inr (.inr (fun j => some (rd j)))))))]) (wr := [(ou, .inl (T 3, 1, .inr (.inl o)))]) ⟨hx, hb, hml, hown, hts⟩ (c_write_x3 l D T g s.heap.size (hl9) lo ra d0 b0 t0 r0 rd i j (hi) (hj) k (hk) x0) (cwV 4 hts gL_write_X5_write rfl rfl rfl (by decide +kernel) ⟨Nat.le_of_ble_eq_true rfl, Nat.le_of_ble_eq_true rfl⟩) (va_recv hK hP (ci := 2) (q0 := 0) rfl rfl) hP hD hK hG hS hA [0, 1] [2] rfl (by decide) rfl (by decide) (by decide) ⟨Nat.le_of_ble_eq_true rfl, Nat.le_of_ble_eq_true rfl⟩ rfl hl.1 (Nat.le_of_ble_eq_true rfl) dL_write_9 rfl (fun H1 locs1 q9 ce h1 h2 h3 k9 => vx_catch (name := "java/lang/IllegalArgumentException") hown [⟨0, 14, 17, 13⟩] ⟨0, 14, 21, 15⟩ [⟨0, 14, 25, 17⟩] (htab.trans rfl) (List.forall_mem_cons.mpr ⟨Or.inr ⟨by decide, "java/lang/IndexOutOfBoundsException", (hts _ (List.mem_of_getElem? (i := 1) rfl)), hN.1 _ (List.mem_of_getElem? (i := 0) rfl)⟩, (fun _ h => absurd h List.not_mem_nil)⟩) (by decide) (by decide) (hts _ (List.mem_of_getElem? (i := 2) rfl)) (va_Yc.word (hN.2 _ (List.mem_of_getElem? (i := 1) rfl))) h1 h2 h3 k9) (fun u q9 H locs hq1 hP hD hS => ?_)
  refine W.widen (k := 1) (n := 6) (Nat.le_of_ble_eq_true rfl) (Nat.le_of_ble_eq_true rfl) ?_
  have hP : va_P D cls [(ou, .inl (T 3, 1, .inr (.inl o))), (lo, .inr (2, [.ref ra, .ref d0, .ref b0, .ref t0, .ref r0])), (ra, .inl (T 2, 6, .inr (.inr (.inr (.inr (fun j => some (rd j)))))))] H := hP
  have hD : va_D A [(ou, .inl (T 3, 1, .inr (.inl o))), (lo, .inr (2, [.ref ra, .ref d0, .ref b0, .ref t0, .ref r0])), (ra, .inl (T 2, 6, .inr (.inr (.inr (.inr (fun j => some (rd j)))))))] := hD
  refine lv_astore (lv' := [(6, .ref q9), (0, .ref lo), (1, .int (nI i)), (2, .int (nI j)), (3, .int k), (4, .int x0), (5, .ref ou)]) hx hb dL_write_21 hl (by decide) rfl (fun ls hl => ?_)
  refine lv_iconst (v := (nI 2)) hx hb dL_write_23 (by decide +kernel) ?_
  have hP9 := hP.sub (ws' := [(lo, .inr (2, [.ref ra, .ref d0, .ref b0, .ref t0, .ref r0])), (ra, .inl (T 2, 6, .inr (.inr (.inr (.inr (fun j => some (rd j))))))), (ou, .inl (T 3, 1, .inr (.inl o)))]) [1, 2, 0] rfl
  have hD9 := hD.sub (ws' := [(lo, .inr (2, [.ref ra, .ref d0, .ref b0, .ref t0, .ref r0])), (ra, .inl (T 2, 6, .inr (.inr (.inr (.inr (fun j => some (rd j))))))), (ou, .inl (T 3, 1, .inr (.inl o)))]) [1, 2, 0] (by decide) rfl
  refine W.widen (k := 5) (n := 1106) (by omega) (by omega) ?_
  exact W.iret (v := (nI 2)) hx hb hr (fun t ht hW => ⟨⟨(), rfl, trivial, (by rw [ht]; exact hP9), va_K.moved hW.alike hK, hD9⟩, hS.F ht⟩) hS.2.2 dL_write_24
set_option maxHeartbeats 4000000 in
set_option maxRecDepth 100000 in
theorem h_write_x4 (l : Launch) (D : va_G) (T : Nat → ClassId) (g : Nat → Nat) (sz : Nat) (hl9 : l.stackTraces = false) (lo : Nat) (ra : Nat) (d0 : Nat) (b0 : Nat) (t0 : Nat) (r0 : Nat) (rd : Nat → Nat) (i : Nat) (q0 : Nat) (f : Nat → Int32) (n : Nat) (j : Nat) (k : Nat) (hk : k < 3) (fl : Nat) (hi : i < 6) (hj : j < 6) (hn : n ≤ 320 ∧ fl < 2) (hm : 320 < lnN k n fl) (ou : Nat) (o : Nat → Int64) : MUN l yL_write wsL_write ({ frames := 80, cells := 5, slots := 1106, locals := 4000 } : Room) D T g [.ref lo, .int (nI i), .int (nI j), .int (nI k), .int (nI fl), .ref ou] [(lo, .inr (2, [.ref ra, .ref d0, .ref b0, .ref t0, .ref r0])), (ra, .inl (T 2, 6, .inr (.inr (.inr (.inr (fun j => some (rd j))))))), (rd i, .inr (0, [.ref q0, .int (nI n)])), (q0, .inl (T 0, 440, .inl f)), (ou, .inl (T 3, 1, .inr (.inl o)))] sz (fun u : Unit => some (.int (nI 3))) (fun u : Unit => True) (fun u : Unit => [(lo, .inr (2, [.ref ra, .ref d0, .ref b0, .ref t0, .ref r0])), (ra, .inl (T 2, 6, .inr (.inr (.inr (.inr (fun j => some (rd j))))))), (rd i, .inr (0, [.ref q0, .int (nI n)])), (q0, .inl (T 0, 440, .inl f)), (ou, .inl (T 3, 1, .inr (.inl o)))]) 5 1106 := by
  refine va_MetW (hh := [(0, 14, 17, 13), (0, 14, 21, 15), (0, 14, 25, 17)]) (cc := cL_write) (maxL := 7) (ret := (some .int)) (by decide) rfl ?_
  intro p e s m args below meth c s₁ B hml hv
  obtain ⟨rfl, ⟨hsz, hP, hK, hD0, hG⟩, hN⟩ := hv
  have hx := B.exec
  have hb := B.bytes
  have hr := B.returns
  have hts := atoms_spec (ws := wsL_write) B.pre
  have hown : s.vm.findClass RL = some m.cls := findClass_of_methodNamed B.named
  have hlocks := B.notSynchronized
  have htab : c.exceptionTable.toList = tableOf [(0, 14, 17, 13), (0, 14, 21, 15), (0, 14, 25, 17)] := vx_table (x := yL_add) B (hts _ (List.mem_of_getElem? (i := 0) rfl))
  subst hsz
  have hD := hD0.self (sz := s.heap.size)
  generalize hAe : va_A [(lo, .inr (2, [.ref ra, .ref d0, .ref b0, .ref t0, .ref r0])), (ra, .inl (T 2, 6, .inr (.inr (.inr (.inr (fun j => some (rd j))))))), (rd i, .inr (0, [.ref q0, .int (nI n)])), (q0, .inl (T 0, 440, .inl f)), (ou, .inl (T 3, 1, .inr (.inl o)))] s.heap.size = A at hD hG ⊢
  have hA : ∀ q : Nat, s.heap.size ≤ q → A q := fun q h => by rw [← hAe]; exact Or.inr h
  have hS : va_S A s.heap s.heap [] := va_S.rf
  have hP : va_P D cls [(lo, .inr (2, [.ref ra, .ref d0, .ref b0, .ref t0, .ref r0])), (ra, .inl (T 2, 6, .inr (.inr (.inr (.inr (fun j => some (rd j))))))), (rd i, .inr (0, [.ref q0, .int (nI n)])), (q0, .inl (T 0, 440, .inl f)), (ou, .inl (T 3, 1, .inr (.inl o)))] s.heap := hP
  have hl := lv_entry ([.ref lo, .int (nI i), .int (nI j), .int (nI k), .int (nI fl), .ref ou]) (n := 7) (Nat.le_of_ble_eq_true rfl)
  rw [lg_entry_eq]
  generalize (lg_sl ([.ref lo, .int (nI i), .int (nI j), .int (nI k), .int (nI fl), .ref ou]) ++ List.replicate (7 - (lg_sl ([.ref lo, .int (nI i), .int (nI j), .int (nI k), .int (nI fl), .ref ou])).length) Slot.unset).toArray = ls at hl ⊢
  have hl : lv_has ls 7 [(0, .ref lo), (1, .int (nI i)), (2, .int (nI j)), (3, .int (nI k)), (4, .int (nI fl)), (5, .ref ou)] := hl
  refine lv_aload hx hb dL_write_0 (lv_at hl 5 rfl) ?_
  refine lv_iconst (v := (nI 0)) hx hb dL_write_2 (by decide +kernel) ?_
  refine lv_aload_n hx hb dL_write_3 rfl (lv_at hl 0 rfl) ?_
  refine lv_iload_n hx hb dL_write_4 rfl (lv_at hl 1 rfl) ?_
  refine lv_iload_n hx hb dL_write_5 rfl (lv_at hl 2 rfl) ?_
  refine lv_iload_n hx hb dL_write_6 rfl (lv_at hl 3 rfl) ?_
  refine lv_iload hx hb dL_write_7 (lv_at hl 4 rfl) ?_
  refine tc_V (hpc := 25) (As := [.int (nI i), .int (nI j), .int (nI k), .int (nI fl)]) (rest := [.int (nI 0), .ref ou]) (wc := [(lo, .inr (2, [.ref ra, .ref d0, .ref b0, .ref t0, .ref r0])), (ra, .inl (T 2, 6, .inr (.inr (.inr (.inr (fun j => some (rd j))))))), (rd i, .inr (0, [.ref q0, .int (nI n)])), (q0, .inl (T 0, 440, .inl f))]) (wr := [(ou, .inl (T 3, 1, .inr (.inl o)))]) ⟨hx, hb, hml, hown, hts⟩ (c_write_x4 l D T g s.heap.size (hl9) lo ra d0 b0 t0 r0 rd i q0 f n j k (hk) fl (hi) (hj) (hn) (hm)) (cwV 4 hts gL_write_X5_write rfl rfl rfl (by decide +kernel) ⟨Nat.le_of_ble_eq_true rfl, Nat.le_of_ble_eq_true rfl⟩) (va_recv hK hP (ci := 2) (q0 := 0) rfl rfl) hP hD hK hG hS hA [0, 1, 2, 3] [4] rfl (by decide) rfl (by decide) (by decide) ⟨Nat.le_of_ble_eq_true rfl, Nat.le_of_ble_eq_true rfl⟩ rfl hl.1 (Nat.le_of_ble_eq_true rfl) dL_write_9 rfl (fun H1 locs1 q9 ce h1 h2 h3 k9 => vx_catch (name := "java/lang/IllegalStateException") hown [⟨0, 14, 17, 13⟩, ⟨0, 14, 21, 15⟩] ⟨0, 14, 25, 17⟩ [] (htab.trans rfl) (List.forall_mem_cons.mpr ⟨Or.inr ⟨by decide, "java/lang/IndexOutOfBoundsException", (hts _ (List.mem_of_getElem? (i := 1) rfl)), hN.1 _ (List.mem_of_getElem? (i := 1) rfl)⟩, (List.forall_mem_cons.mpr ⟨Or.inr ⟨by decide, "java/lang/IllegalArgumentException", (hts _ (List.mem_of_getElem? (i := 2) rfl)), hN.1 _ (List.mem_of_getElem? (i := 2) rfl)⟩, (fun _ h => absurd h List.not_mem_nil)⟩)⟩) (by decide) (by decide) (hts _ (List.mem_of_getElem? (i := 3) rfl)) (va_Yc.word (hN.2 _ (List.mem_of_getElem? (i := 2) rfl))) h1 h2 h3 k9) (fun u q9 H locs hq1 hP hD hS => ?_)
  refine W.widen (k := 1) (n := 6) (Nat.le_of_ble_eq_true rfl) (Nat.le_of_ble_eq_true rfl) ?_
  have hP : va_P D cls [(ou, .inl (T 3, 1, .inr (.inl o))), (lo, .inr (2, [.ref ra, .ref d0, .ref b0, .ref t0, .ref r0])), (ra, .inl (T 2, 6, .inr (.inr (.inr (.inr (fun j => some (rd j))))))), (rd i, .inr (0, [.ref q0, .int (nI n)])), (q0, .inl (T 0, 440, .inl f))] H := hP
  have hD : va_D A [(ou, .inl (T 3, 1, .inr (.inl o))), (lo, .inr (2, [.ref ra, .ref d0, .ref b0, .ref t0, .ref r0])), (ra, .inl (T 2, 6, .inr (.inr (.inr (.inr (fun j => some (rd j))))))), (rd i, .inr (0, [.ref q0, .int (nI n)])), (q0, .inl (T 0, 440, .inl f))] := hD
  refine lv_astore (lv' := [(6, .ref q9), (0, .ref lo), (1, .int (nI i)), (2, .int (nI j)), (3, .int (nI k)), (4, .int (nI fl)), (5, .ref ou)]) hx hb dL_write_25 hl (by decide) rfl (fun ls hl => ?_)
  refine lv_iconst (v := (nI 3)) hx hb dL_write_27 (by decide +kernel) ?_
  have hP9 := hP.sub (ws' := [(lo, .inr (2, [.ref ra, .ref d0, .ref b0, .ref t0, .ref r0])), (ra, .inl (T 2, 6, .inr (.inr (.inr (.inr (fun j => some (rd j))))))), (rd i, .inr (0, [.ref q0, .int (nI n)])), (q0, .inl (T 0, 440, .inl f)), (ou, .inl (T 3, 1, .inr (.inl o)))]) [1, 2, 3, 4, 0] rfl
  have hD9 := hD.sub (ws' := [(lo, .inr (2, [.ref ra, .ref d0, .ref b0, .ref t0, .ref r0])), (ra, .inl (T 2, 6, .inr (.inr (.inr (.inr (fun j => some (rd j))))))), (rd i, .inr (0, [.ref q0, .int (nI n)])), (q0, .inl (T 0, 440, .inl f)), (ou, .inl (T 3, 1, .inr (.inl o)))]) [1, 2, 3, 4, 0] (by decide) rfl
  refine W.widen (k := 5) (n := 1106) (by omega) (by omega) ?_
  exact W.iret (v := (nI 3)) hx hb hr (fun t ht hW => ⟨⟨(), rfl, trivial, (by rw [ht]; exact hP9), va_K.moved hW.alike hK, hD9⟩, hS.F ht⟩) hS.2.2 dL_write_28
set_option maxHeartbeats 4000000 in
set_option maxRecDepth 100000 in
theorem h_write (l : Launch) (D : va_G) (T : Nat → ClassId) (g : Nat → Nat) (sz : Nat) (lo : Nat) (ra : Nat) (d0 : Nat) (b0 : Nat) (t0 : Nat) (r0 : Nat) (rd : Nat → Nat) (i : Nat) (q0 : Nat) (f : Nat → Int32) (n : Nat) (j : Nat) (q1 : Nat) (f1 : Nat → Int32) (n1 : Nat) (dq : Nat) (df : Nat → Int32) (dn : Nat) (b : Nat → Nat) (hb9 : RB f n b) (k : Nat) (hk : k < 3) (fl : Nat) (hn : n ≤ 320 ∧ fl < 2) (hm : lnN k n fl ≤ 320) (hi : i < 6) (hj : j < 6) (ou : Nat) (o : Nat → Int64) : MUN l yL_write wsL_write ({ frames := 80, cells := 5, slots := 1106, locals := 4000 } : Room) D T g [.ref lo, .int (nI i), .int (nI j), .int (nI k), .int (nI fl), .ref ou] [(lo, .inr (2, [.ref ra, .ref d0, .ref b0, .ref t0, .ref r0])), (ra, .inl (T 2, 6, .inr (.inr (.inr (.inr (fun j => some (rd j))))))), (rd i, .inr (0, [.ref q0, .int (nI n)])), (q0, .inl (T 0, 440, .inl f)), (rd j, .inr (0, [.ref q1, .int (nI n1)])), (q1, .inl (T 0, 440, .inl f1)), (d0, .inr (0, [.ref dq, .int (nI dn)])), (dq, .inl (T 0, 440, .inl df)), (ou, .inl (T 3, 1, .inr (.inl o)))] sz (fun u : (Nat → Int32) × (Nat → Int32) => some (.int (nI 0))) (fun u : (Nat → Int32) × (Nat → Int32) => RB u.1 (lnN k n fl) (wrA k n b)) (fun u : (Nat → Int32) × (Nat → Int32) => [(lo, .inr (2, [.ref ra, .ref d0, .ref b0, .ref t0, .ref r0])), (ra, .inl (T 2, 6, .inr (.inr (.inr (.inr (fun j => some (rd j))))))), (rd i, .inr (0, [.ref q0, .int (nI n)])), (q0, .inl (T 0, 440, .inl f)), (rd j, .inr (0, [.ref q1, .int (nI (lnN k n fl))])), (q1, .inl (T 0, 440, .inl u.1)), (d0, .inr (0, [.ref dq, .int (nI (lnN k n fl))])), (dq, .inl (T 0, 440, .inl u.2)), (ou, .inl (T 3, 1, .inr (.inl (vp_updL o 0 (lN (lnN k n fl))))))]) 5 1106 := by
  refine va_MetW (hh := [(0, 14, 17, 13), (0, 14, 21, 15), (0, 14, 25, 17)]) (cc := cL_write) (maxL := 7) (ret := (some .int)) (by decide) rfl ?_
  intro p e s m args below meth c s₁ B hml hv
  obtain ⟨rfl, ⟨hsz, hP, hK, hD0, hG⟩, hN⟩ := hv
  have hx := B.exec
  have hb := B.bytes
  have hr := B.returns
  have hts := atoms_spec (ws := wsL_write) B.pre
  have hown : s.vm.findClass RL = some m.cls := findClass_of_methodNamed B.named
  have hlocks := B.notSynchronized
  have htab : c.exceptionTable.toList = tableOf [(0, 14, 17, 13), (0, 14, 21, 15), (0, 14, 25, 17)] := vx_table (x := yL_add) B (hts _ (List.mem_of_getElem? (i := 0) rfl))
  subst hsz
  have hD := hD0.self (sz := s.heap.size)
  generalize hAe : va_A [(lo, .inr (2, [.ref ra, .ref d0, .ref b0, .ref t0, .ref r0])), (ra, .inl (T 2, 6, .inr (.inr (.inr (.inr (fun j => some (rd j))))))), (rd i, .inr (0, [.ref q0, .int (nI n)])), (q0, .inl (T 0, 440, .inl f)), (rd j, .inr (0, [.ref q1, .int (nI n1)])), (q1, .inl (T 0, 440, .inl f1)), (d0, .inr (0, [.ref dq, .int (nI dn)])), (dq, .inl (T 0, 440, .inl df)), (ou, .inl (T 3, 1, .inr (.inl o)))] s.heap.size = A at hD hG ⊢
  have hA : ∀ q : Nat, s.heap.size ≤ q → A q := fun q h => by rw [← hAe]; exact Or.inr h
  have hS : va_S A s.heap s.heap [] := va_S.rf
  have hP : va_P D cls [(lo, .inr (2, [.ref ra, .ref d0, .ref b0, .ref t0, .ref r0])), (ra, .inl (T 2, 6, .inr (.inr (.inr (.inr (fun j => some (rd j))))))), (rd i, .inr (0, [.ref q0, .int (nI n)])), (q0, .inl (T 0, 440, .inl f)), (rd j, .inr (0, [.ref q1, .int (nI n1)])), (q1, .inl (T 0, 440, .inl f1)), (d0, .inr (0, [.ref dq, .int (nI dn)])), (dq, .inl (T 0, 440, .inl df)), (ou, .inl (T 3, 1, .inr (.inl o)))] s.heap := hP
  have hl := lv_entry ([.ref lo, .int (nI i), .int (nI j), .int (nI k), .int (nI fl), .ref ou]) (n := 7) (Nat.le_of_ble_eq_true rfl)
  rw [lg_entry_eq]
  generalize (lg_sl ([.ref lo, .int (nI i), .int (nI j), .int (nI k), .int (nI fl), .ref ou]) ++ List.replicate (7 - (lg_sl ([.ref lo, .int (nI i), .int (nI j), .int (nI k), .int (nI fl), .ref ou])).length) Slot.unset).toArray = ls at hl ⊢
  have hl : lv_has ls 7 [(0, .ref lo), (1, .int (nI i)), (2, .int (nI j)), (3, .int (nI k)), (4, .int (nI fl)), (5, .ref ou)] := hl
  have hle := lnN_le (k := k) (fl := fl) hn.1
  refine lv_aload hx hb dL_write_0 (lv_at hl 5 rfl) ?_
  refine lv_iconst (v := (nI 0)) hx hb dL_write_2 (by decide +kernel) ?_
  refine lv_aload_n hx hb dL_write_3 rfl (lv_at hl 0 rfl) ?_
  refine lv_iload_n hx hb dL_write_4 rfl (lv_at hl 1 rfl) ?_
  refine lv_iload_n hx hb dL_write_5 rfl (lv_at hl 2 rfl) ?_
  refine lv_iload_n hx hb dL_write_6 rfl (lv_at hl 3 rfl) ?_
  refine lv_iload hx hb dL_write_7 (lv_at hl 4 rfl) ?_
  refine mu_V (As := [.int (nI i), .int (nI j), .int (nI k), .int (nI fl)]) (rest := [.int (nI 0), .ref ou]) (wc := [(lo, .inr (2, [.ref ra, .ref d0, .ref b0, .ref t0, .ref r0])), (ra, .inl (T 2, 6, .inr (.inr (.inr (.inr (fun j => some (rd j))))))), (rd i, .inr (0, [.ref q0, .int (nI n)])), (q0, .inl (T 0, 440, .inl f)), (rd j, .inr (0, [.ref q1, .int (nI n1)])), (q1, .inl (T 0, 440, .inl f1)), (d0, .inr (0, [.ref dq, .int (nI dn)])), (dq, .inl (T 0, 440, .inl df))]) (wr := [(ou, .inl (T 3, 1, .inr (.inl o)))]) ⟨hx, hb, hml, hown, hts⟩ (c_write l D T g s.heap.size lo ra d0 b0 t0 r0 rd i q0 f n j q1 f1 n1 dq df dn b (hb9) k (hk) fl (hn) (hm) (hi) (hj)) (cwV 4 hts gL_write_X5_write rfl rfl rfl (by decide +kernel) ⟨Nat.le_of_ble_eq_true rfl, Nat.le_of_ble_eq_true rfl⟩) (va_recv hK hP (ci := 2) (q0 := 0) rfl rfl) hP hD hK hG hS hA [0, 1, 2, 3, 4, 5, 6, 7] [8] rfl (by decide) rfl (by decide) (by decide) ⟨Nat.le_of_ble_eq_true rfl, Nat.le_of_ble_eq_true rfl⟩ rfl hl.1 (Nat.le_of_ble_eq_true rfl) dL_write_9 rfl (fun u H locs hq3 hP hD hS => ?_)
  obtain ⟨F_1, G_2⟩ := u
  have hP : va_P D cls [(ou, .inl (T 3, 1, .inr (.inl o))), (lo, .inr (2, [.ref ra, .ref d0, .ref b0, .ref t0, .ref r0])), (ra, .inl (T 2, 6, .inr (.inr (.inr (.inr (fun j => some (rd j))))))), (rd i, .inr (0, [.ref q0, .int (nI n)])), (q0, .inl (T 0, 440, .inl f)), (rd j, .inr (0, [.ref q1, .int (nI (lnN k n fl))])), (q1, .inl (T 0, 440, .inl F_1)), (d0, .inr (0, [.ref dq, .int (nI (lnN k n fl))])), (dq, .inl (T 0, 440, .inl G_2))] H := hP
  have hD : va_D A [(ou, .inl (T 3, 1, .inr (.inl o))), (lo, .inr (2, [.ref ra, .ref d0, .ref b0, .ref t0, .ref r0])), (ra, .inl (T 2, 6, .inr (.inr (.inr (.inr (fun j => some (rd j))))))), (rd i, .inr (0, [.ref q0, .int (nI n)])), (q0, .inl (T 0, 440, .inl f)), (rd j, .inr (0, [.ref q1, .int (nI (lnN k n fl))])), (q1, .inl (T 0, 440, .inl F_1)), (d0, .inr (0, [.ref dq, .int (nI (lnN k n fl))])), (dq, .inl (T 0, 440, .inl G_2))] := hD
  have hp1 : RB F_1 (lnN k n fl) (wrA k n b) := hq3
  refine W.eq (g2 := F0 m 12 ls [.int (nI (lnN k n fl)), .int (nI 0), .ref ou]) rfl ?_
  refine lv_i2l hx hb dL_write_12 (v := lN (lnN k n fl)) (nI_l (by omega)) ?_
  refine va_last hx hb hK hP hD hS 0 3 rfl rfl (vp_in_nI (by omega) (by omega)) dL_write_13 (fun H locs hP hD hS => ?_)
  rw [nI_clamp (by omega)] at hP hD
  have hP : va_P D cls [(ou, .inl (T 3, 1, .inr (.inl (vp_updL o 0 (lN (lnN k n fl)))))), (lo, .inr (2, [.ref ra, .ref d0, .ref b0, .ref t0, .ref r0])), (ra, .inl (T 2, 6, .inr (.inr (.inr (.inr (fun j => some (rd j))))))), (rd i, .inr (0, [.ref q0, .int (nI n)])), (q0, .inl (T 0, 440, .inl f)), (rd j, .inr (0, [.ref q1, .int (nI (lnN k n fl))])), (q1, .inl (T 0, 440, .inl F_1)), (d0, .inr (0, [.ref dq, .int (nI (lnN k n fl))])), (dq, .inl (T 0, 440, .inl G_2))] H := hP
  have hD : va_D A [(ou, .inl (T 3, 1, .inr (.inl (vp_updL o 0 (lN (lnN k n fl)))))), (lo, .inr (2, [.ref ra, .ref d0, .ref b0, .ref t0, .ref r0])), (ra, .inl (T 2, 6, .inr (.inr (.inr (.inr (fun j => some (rd j))))))), (rd i, .inr (0, [.ref q0, .int (nI n)])), (q0, .inl (T 0, 440, .inl f)), (rd j, .inr (0, [.ref q1, .int (nI (lnN k n fl))])), (q1, .inl (T 0, 440, .inl F_1)), (d0, .inr (0, [.ref dq, .int (nI (lnN k n fl))])), (dq, .inl (T 0, 440, .inl G_2))] := hD
  refine lv_goto (tgt := 29) hx hb dL_write_14 (by decide) ?_
  refine lv_iconst (v := (nI 0)) hx hb dL_write_29 (by decide +kernel) ?_
  have hP9 := hP.sub (ws' := [(lo, .inr (2, [.ref ra, .ref d0, .ref b0, .ref t0, .ref r0])), (ra, .inl (T 2, 6, .inr (.inr (.inr (.inr (fun j => some (rd j))))))), (rd i, .inr (0, [.ref q0, .int (nI n)])), (q0, .inl (T 0, 440, .inl f)), (rd j, .inr (0, [.ref q1, .int (nI (lnN k n fl))])), (q1, .inl (T 0, 440, .inl F_1)), (d0, .inr (0, [.ref dq, .int (nI (lnN k n fl))])), (dq, .inl (T 0, 440, .inl G_2)), (ou, .inl (T 3, 1, .inr (.inl (vp_updL o 0 (lN (lnN k n fl))))))]) [1, 2, 3, 4, 5, 6, 7, 8, 0] rfl
  have hD9 := hD.sub (ws' := [(lo, .inr (2, [.ref ra, .ref d0, .ref b0, .ref t0, .ref r0])), (ra, .inl (T 2, 6, .inr (.inr (.inr (.inr (fun j => some (rd j))))))), (rd i, .inr (0, [.ref q0, .int (nI n)])), (q0, .inl (T 0, 440, .inl f)), (rd j, .inr (0, [.ref q1, .int (nI (lnN k n fl))])), (q1, .inl (T 0, 440, .inl F_1)), (d0, .inr (0, [.ref dq, .int (nI (lnN k n fl))])), (dq, .inl (T 0, 440, .inl G_2)), (ou, .inl (T 3, 1, .inr (.inl (vp_updL o 0 (lN (lnN k n fl))))))]) [1, 2, 3, 4, 5, 6, 7, 8, 0] (by decide) rfl
  refine W.widen (k := 5) (n := 1106) (by omega) (by omega) ?_
  exact W.iret (v := (nI 0)) hx hb hr (fun t ht hW => ⟨⟨(F_1, G_2), rfl, show RB F_1 (lnN k n fl) (wrA k n b) from hp1, (by rw [ht]; exact hP9), va_K.moved hW.alike hK, hD9⟩, hS.F ht⟩) hS.2.2 dL_write_30
set_option maxHeartbeats 4000000 in
set_option maxRecDepth 100000 in
theorem h_write_a (l : Launch) (D : va_G) (T : Nat → ClassId) (g : Nat → Nat) (sz : Nat) (lo : Nat) (ra : Nat) (d0 : Nat) (b0 : Nat) (t0 : Nat) (r0 : Nat) (rd : Nat → Nat) (i : Nat) (q0 : Nat) (f : Nat → Int32) (n : Nat) (dq : Nat) (df : Nat → Int32) (dn : Nat) (b : Nat → Nat) (hb9 : RB f n b) (k : Nat) (hk : k < 3) (fl : Nat) (hn : n ≤ 320 ∧ fl < 2) (hm : lnN k n fl ≤ 320) (hi : i < 6) (ou : Nat) (o : Nat → Int64) : MUN l yL_write wsL_write ({ frames := 80, cells := 5, slots := 1106, locals := 4000 } : Room) D T g [.ref lo, .int (nI i), .int (nI i), .int (nI k), .int (nI fl), .ref ou] [(lo, .inr (2, [.ref ra, .ref d0, .ref b0, .ref t0, .ref r0])), (ra, .inl (T 2, 6, .inr (.inr (.inr (.inr (fun j => some (rd j))))))), (rd i, .inr (0, [.ref q0, .int (nI n)])), (q0, .inl (T 0, 440, .inl f)), (d0, .inr (0, [.ref dq, .int (nI dn)])), (dq, .inl (T 0, 440, .inl df)), (ou, .inl (T 3, 1, .inr (.inl o)))] sz (fun u : (Nat → Int32) × (Nat → Int32) => some (.int (nI 0))) (fun u : (Nat → Int32) × (Nat → Int32) => RB u.1 (lnN k n fl) (wrA k n b)) (fun u : (Nat → Int32) × (Nat → Int32) => [(lo, .inr (2, [.ref ra, .ref d0, .ref b0, .ref t0, .ref r0])), (ra, .inl (T 2, 6, .inr (.inr (.inr (.inr (fun j => some (rd j))))))), (rd i, .inr (0, [.ref q0, .int (nI (lnN k n fl))])), (q0, .inl (T 0, 440, .inl u.1)), (d0, .inr (0, [.ref dq, .int (nI (lnN k n fl))])), (dq, .inl (T 0, 440, .inl u.2)), (ou, .inl (T 3, 1, .inr (.inl (vp_updL o 0 (lN (lnN k n fl))))))]) 5 1106 := by
  refine va_MetW (hh := [(0, 14, 17, 13), (0, 14, 21, 15), (0, 14, 25, 17)]) (cc := cL_write) (maxL := 7) (ret := (some .int)) (by decide) rfl ?_
  intro p e s m args below meth c s₁ B hml hv
  obtain ⟨rfl, ⟨hsz, hP, hK, hD0, hG⟩, hN⟩ := hv
  have hx := B.exec
  have hb := B.bytes
  have hr := B.returns
  have hts := atoms_spec (ws := wsL_write) B.pre
  have hown : s.vm.findClass RL = some m.cls := findClass_of_methodNamed B.named
  have hlocks := B.notSynchronized
  have htab : c.exceptionTable.toList = tableOf [(0, 14, 17, 13), (0, 14, 21, 15), (0, 14, 25, 17)] := vx_table (x := yL_add) B (hts _ (List.mem_of_getElem? (i := 0) rfl))
  subst hsz
  have hD := hD0.self (sz := s.heap.size)
  generalize hAe : va_A [(lo, .inr (2, [.ref ra, .ref d0, .ref b0, .ref t0, .ref r0])), (ra, .inl (T 2, 6, .inr (.inr (.inr (.inr (fun j => some (rd j))))))), (rd i, .inr (0, [.ref q0, .int (nI n)])), (q0, .inl (T 0, 440, .inl f)), (d0, .inr (0, [.ref dq, .int (nI dn)])), (dq, .inl (T 0, 440, .inl df)), (ou, .inl (T 3, 1, .inr (.inl o)))] s.heap.size = A at hD hG ⊢
  have hA : ∀ q : Nat, s.heap.size ≤ q → A q := fun q h => by rw [← hAe]; exact Or.inr h
  have hS : va_S A s.heap s.heap [] := va_S.rf
  have hP : va_P D cls [(lo, .inr (2, [.ref ra, .ref d0, .ref b0, .ref t0, .ref r0])), (ra, .inl (T 2, 6, .inr (.inr (.inr (.inr (fun j => some (rd j))))))), (rd i, .inr (0, [.ref q0, .int (nI n)])), (q0, .inl (T 0, 440, .inl f)), (d0, .inr (0, [.ref dq, .int (nI dn)])), (dq, .inl (T 0, 440, .inl df)), (ou, .inl (T 3, 1, .inr (.inl o)))] s.heap := hP
  have hl := lv_entry ([.ref lo, .int (nI i), .int (nI i), .int (nI k), .int (nI fl), .ref ou]) (n := 7) (Nat.le_of_ble_eq_true rfl)
  rw [lg_entry_eq]
  generalize (lg_sl ([.ref lo, .int (nI i), .int (nI i), .int (nI k), .int (nI fl), .ref ou]) ++ List.replicate (7 - (lg_sl ([.ref lo, .int (nI i), .int (nI i), .int (nI k), .int (nI fl), .ref ou])).length) Slot.unset).toArray = ls at hl ⊢
  have hl : lv_has ls 7 [(0, .ref lo), (1, .int (nI i)), (2, .int (nI i)), (3, .int (nI k)), (4, .int (nI fl)), (5, .ref ou)] := hl
  have hle := lnN_le (k := k) (fl := fl) hn.1
  refine lv_aload hx hb dL_write_0 (lv_at hl 5 rfl) ?_
  refine lv_iconst (v := (nI 0)) hx hb dL_write_2 (by decide +kernel) ?_
  refine lv_aload_n hx hb dL_write_3 rfl (lv_at hl 0 rfl) ?_
  refine lv_iload_n hx hb dL_write_4 rfl (lv_at hl 1 rfl) ?_
  refine lv_iload_n hx hb dL_write_5 rfl (lv_at hl 2 rfl) ?_
  refine lv_iload_n hx hb dL_write_6 rfl (lv_at hl 3 rfl) ?_
  refine lv_iload hx hb dL_write_7 (lv_at hl 4 rfl) ?_
  refine mu_V (As := [.int (nI i), .int (nI i), .int (nI k), .int (nI fl)]) (rest := [.int (nI 0), .ref ou]) (wc := [(lo, .inr (2, [.ref ra, .ref d0, .ref b0, .ref t0, .ref r0])), (ra, .inl (T 2, 6, .inr (.inr (.inr (.inr (fun j => some (rd j))))))), (rd i, .inr (0, [.ref q0, .int (nI n)])), (q0, .inl (T 0, 440, .inl f)), (d0, .inr (0, [.ref dq, .int (nI dn)])), (dq, .inl (T 0, 440, .inl df))]) (wr := [(ou, .inl (T 3, 1, .inr (.inl o)))]) ⟨hx, hb, hml, hown, hts⟩ (c_write_a l D T g s.heap.size lo ra d0 b0 t0 r0 rd i q0 f n dq df dn b (hb9) k (hk) fl (hn) (hm) (hi)) (cwV 4 hts gL_write_X5_write rfl rfl rfl (by decide +kernel) ⟨Nat.le_of_ble_eq_true rfl, Nat.le_of_ble_eq_true rfl⟩) (va_recv hK hP (ci := 2) (q0 := 0) rfl rfl) hP hD hK hG hS hA [0, 1, 2, 3, 4, 5] [6] rfl (by decide) rfl (by decide) (by decide) ⟨Nat.le_of_ble_eq_true rfl, Nat.le_of_ble_eq_true rfl⟩ rfl hl.1 (Nat.le_of_ble_eq_true rfl) dL_write_9 rfl (fun u H locs hq3 hP hD hS => ?_)
  obtain ⟨F_1, G_2⟩ := u
  have hP : va_P D cls [(ou, .inl (T 3, 1, .inr (.inl o))), (lo, .inr (2, [.ref ra, .ref d0, .ref b0, .ref t0, .ref r0])), (ra, .inl (T 2, 6, .inr (.inr (.inr (.inr (fun j => some (rd j))))))), (rd i, .inr (0, [.ref q0, .int (nI (lnN k n fl))])), (q0, .inl (T 0, 440, .inl F_1)), (d0, .inr (0, [.ref dq, .int (nI (lnN k n fl))])), (dq, .inl (T 0, 440, .inl G_2))] H := hP
  have hD : va_D A [(ou, .inl (T 3, 1, .inr (.inl o))), (lo, .inr (2, [.ref ra, .ref d0, .ref b0, .ref t0, .ref r0])), (ra, .inl (T 2, 6, .inr (.inr (.inr (.inr (fun j => some (rd j))))))), (rd i, .inr (0, [.ref q0, .int (nI (lnN k n fl))])), (q0, .inl (T 0, 440, .inl F_1)), (d0, .inr (0, [.ref dq, .int (nI (lnN k n fl))])), (dq, .inl (T 0, 440, .inl G_2))] := hD
  have hp1 : RB F_1 (lnN k n fl) (wrA k n b) := hq3
  refine W.eq (g2 := F0 m 12 ls [.int (nI (lnN k n fl)), .int (nI 0), .ref ou]) rfl ?_
  refine lv_i2l hx hb dL_write_12 (v := lN (lnN k n fl)) (nI_l (by omega)) ?_
  refine va_last hx hb hK hP hD hS 0 3 rfl rfl (vp_in_nI (by omega) (by omega)) dL_write_13 (fun H locs hP hD hS => ?_)
  rw [nI_clamp (by omega)] at hP hD
  have hP : va_P D cls [(ou, .inl (T 3, 1, .inr (.inl (vp_updL o 0 (lN (lnN k n fl)))))), (lo, .inr (2, [.ref ra, .ref d0, .ref b0, .ref t0, .ref r0])), (ra, .inl (T 2, 6, .inr (.inr (.inr (.inr (fun j => some (rd j))))))), (rd i, .inr (0, [.ref q0, .int (nI (lnN k n fl))])), (q0, .inl (T 0, 440, .inl F_1)), (d0, .inr (0, [.ref dq, .int (nI (lnN k n fl))])), (dq, .inl (T 0, 440, .inl G_2))] H := hP
  have hD : va_D A [(ou, .inl (T 3, 1, .inr (.inl (vp_updL o 0 (lN (lnN k n fl)))))), (lo, .inr (2, [.ref ra, .ref d0, .ref b0, .ref t0, .ref r0])), (ra, .inl (T 2, 6, .inr (.inr (.inr (.inr (fun j => some (rd j))))))), (rd i, .inr (0, [.ref q0, .int (nI (lnN k n fl))])), (q0, .inl (T 0, 440, .inl F_1)), (d0, .inr (0, [.ref dq, .int (nI (lnN k n fl))])), (dq, .inl (T 0, 440, .inl G_2))] := hD
  refine lv_goto (tgt := 29) hx hb dL_write_14 (by decide) ?_
  refine lv_iconst (v := (nI 0)) hx hb dL_write_29 (by decide +kernel) ?_
  have hP9 := hP.sub (ws' := [(lo, .inr (2, [.ref ra, .ref d0, .ref b0, .ref t0, .ref r0])), (ra, .inl (T 2, 6, .inr (.inr (.inr (.inr (fun j => some (rd j))))))), (rd i, .inr (0, [.ref q0, .int (nI (lnN k n fl))])), (q0, .inl (T 0, 440, .inl F_1)), (d0, .inr (0, [.ref dq, .int (nI (lnN k n fl))])), (dq, .inl (T 0, 440, .inl G_2)), (ou, .inl (T 3, 1, .inr (.inl (vp_updL o 0 (lN (lnN k n fl))))))]) [1, 2, 3, 4, 5, 6, 0] rfl
  have hD9 := hD.sub (ws' := [(lo, .inr (2, [.ref ra, .ref d0, .ref b0, .ref t0, .ref r0])), (ra, .inl (T 2, 6, .inr (.inr (.inr (.inr (fun j => some (rd j))))))), (rd i, .inr (0, [.ref q0, .int (nI (lnN k n fl))])), (q0, .inl (T 0, 440, .inl F_1)), (d0, .inr (0, [.ref dq, .int (nI (lnN k n fl))])), (dq, .inl (T 0, 440, .inl G_2)), (ou, .inl (T 3, 1, .inr (.inl (vp_updL o 0 (lN (lnN k n fl))))))]) [1, 2, 3, 4, 5, 6, 0] (by decide) rfl
  refine W.widen (k := 5) (n := 1106) (by omega) (by omega) ?_
  exact W.iret (v := (nI 0)) hx hb hr (fun t ht hW => ⟨⟨(F_1, G_2), rfl, show RB F_1 (lnN k n fl) (wrA k n b) from hp1, (by rw [ht]; exact hP9), va_K.moved hW.alike hK, hD9⟩, hS.F ht⟩) hS.2.2 dL_write_30
set_option maxHeartbeats 4000000 in
set_option maxRecDepth 100000 in
theorem h_writeText_x1 (l : Launch) (D : va_G) (T : Nat → ClassId) (g : Nat → Nat) (sz : Nat) (hl9 : l.stackTraces = false) (lo : Nat) (ra : Nat) (d0 : Nat) (b0 : Nat) (t0 : Nat) (r0 : Nat) (rd : Nat → Nat) (i : Int32) (hi : i < 0 ∨ ¬ i < nI 6) (x0 : Int32) (x1 : Int32) (x2 : Int32) (ou : Nat) (o : Nat → Int64) : MUN l yL_writeText wsL_writeText ({ frames := 80, cells := 5, slots := 1106, locals := 4000 } : Room) D T g [.ref lo, .int i, .int x0, .int x1, .int x2, .ref ou] [(lo, .inr (2, [.ref ra, .ref d0, .ref b0, .ref t0, .ref r0])), (ra, .inl (T 2, 6, .inr (.inr (.inr (.inr (fun j => some (rd j))))))), (ou, .inl (T 3, 1, .inr (.inl o)))] sz (fun u : Unit => some (.int (nI 1))) (fun u : Unit => True) (fun u : Unit => [(lo, .inr (2, [.ref ra, .ref d0, .ref b0, .ref t0, .ref r0])), (ra, .inl (T 2, 6, .inr (.inr (.inr (.inr (fun j => some (rd j))))))), (ou, .inl (T 3, 1, .inr (.inl o)))]) 5 1106 := by
  refine va_MetW (hh := [(0, 14, 17, 13), (0, 14, 21, 15), (0, 14, 25, 17)]) (cc := cL_writeText) (maxL := 7) (ret := (some .int)) (by decide) rfl ?_
  intro p e s m args below meth c s₁ B hml hv
  obtain ⟨rfl, ⟨hsz, hP, hK, hD0, hG⟩, hN⟩ := hv
  have hx := B.exec
  have hb := B.bytes
  have hr := B.returns
  have hts := atoms_spec (ws := wsL_writeText) B.pre
  have hown : s.vm.findClass RL = some m.cls := findClass_of_methodNamed B.named
  have hlocks := B.notSynchronized
  have htab : c.exceptionTable.toList = tableOf [(0, 14, 17, 13), (0, 14, 21, 15), (0, 14, 25, 17)] := vx_table (x := yL_add) B (hts _ (List.mem_of_getElem? (i := 0) rfl))
  subst hsz
  have hD := hD0.self (sz := s.heap.size)
  generalize hAe : va_A [(lo, .inr (2, [.ref ra, .ref d0, .ref b0, .ref t0, .ref r0])), (ra, .inl (T 2, 6, .inr (.inr (.inr (.inr (fun j => some (rd j))))))), (ou, .inl (T 3, 1, .inr (.inl o)))] s.heap.size = A at hD hG ⊢
  have hA : ∀ q : Nat, s.heap.size ≤ q → A q := fun q h => by rw [← hAe]; exact Or.inr h
  have hS : va_S A s.heap s.heap [] := va_S.rf
  have hP : va_P D cls [(lo, .inr (2, [.ref ra, .ref d0, .ref b0, .ref t0, .ref r0])), (ra, .inl (T 2, 6, .inr (.inr (.inr (.inr (fun j => some (rd j))))))), (ou, .inl (T 3, 1, .inr (.inl o)))] s.heap := hP
  have hl := lv_entry ([.ref lo, .int i, .int x0, .int x1, .int x2, .ref ou]) (n := 7) (Nat.le_of_ble_eq_true rfl)
  rw [lg_entry_eq]
  generalize (lg_sl ([.ref lo, .int i, .int x0, .int x1, .int x2, .ref ou]) ++ List.replicate (7 - (lg_sl ([.ref lo, .int i, .int x0, .int x1, .int x2, .ref ou])).length) Slot.unset).toArray = ls at hl ⊢
  have hl : lv_has ls 7 [(0, .ref lo), (1, .int i), (2, .int x0), (3, .int x1), (4, .int x2), (5, .ref ou)] := hl
  refine lv_aload hx hb dL_writeText_0 (lv_at hl 5 rfl) ?_
  refine lv_iconst (v := (nI 0)) hx hb dL_writeText_2 (by decide +kernel) ?_
  refine lv_aload_n hx hb dL_writeText_3 rfl (lv_at hl 0 rfl) ?_
  refine lv_iload_n hx hb dL_writeText_4 rfl (lv_at hl 1 rfl) ?_
  refine lv_iload_n hx hb dL_writeText_5 rfl (lv_at hl 2 rfl) ?_
  refine lv_iload_n hx hb dL_writeText_6 rfl (lv_at hl 3 rfl) ?_
  refine lv_iload hx hb dL_writeText_7 (lv_at hl 4 rfl) ?_
  refine tc_V (hpc := 17) (As := [.int i, .int x0, .int x1, .int x2]) (rest := [.int (nI 0), .ref ou]) (wc := [(lo, .inr (2, [.ref ra, .ref d0, .ref b0, .ref t0, .ref r0])), (ra, .inl (T 2, 6, .inr (.inr (.inr (.inr (fun j => some (rd j)))))))]) (wr := [(ou, .inl (T 3, 1, .inr (.inl o)))]) ⟨hx, hb, hml, hown, hts⟩ (c_writeText_x1 l D T g s.heap.size (hl9) lo ra d0 b0 t0 r0 rd i (hi) x0 x1 x2) (cwV 4 hts gL_writeText_X5_writeText rfl rfl rfl (by decide +kernel) ⟨Nat.le_of_ble_eq_true rfl, Nat.le_of_ble_eq_true rfl⟩) (va_recv hK hP (ci := 2) (q0 := 0) rfl rfl) hP hD hK hG hS hA [0, 1] [2] rfl (by decide) rfl (by decide) (by decide) ⟨Nat.le_of_ble_eq_true rfl, Nat.le_of_ble_eq_true rfl⟩ rfl hl.1 (Nat.le_of_ble_eq_true rfl) dL_writeText_9 rfl (fun H1 locs1 q9 ce h1 h2 h3 k9 => vx_catch (name := "java/lang/IndexOutOfBoundsException") hown [] ⟨0, 14, 17, 13⟩ [⟨0, 14, 21, 15⟩, ⟨0, 14, 25, 17⟩] (htab.trans rfl) (fun _ h => absurd h List.not_mem_nil) (by decide) (by decide) (hts _ (List.mem_of_getElem? (i := 1) rfl)) (va_Yc.word (hN.2 _ (List.mem_of_getElem? (i := 0) rfl))) h1 h2 h3 k9) (fun u q9 H locs hq1 hP hD hS => ?_)
  refine W.widen (k := 1) (n := 6) (Nat.le_of_ble_eq_true rfl) (Nat.le_of_ble_eq_true rfl) ?_
  have hP : va_P D cls [(ou, .inl (T 3, 1, .inr (.inl o))), (lo, .inr (2, [.ref ra, .ref d0, .ref b0, .ref t0, .ref r0])), (ra, .inl (T 2, 6, .inr (.inr (.inr (.inr (fun j => some (rd j)))))))] H := hP
  have hD : va_D A [(ou, .inl (T 3, 1, .inr (.inl o))), (lo, .inr (2, [.ref ra, .ref d0, .ref b0, .ref t0, .ref r0])), (ra, .inl (T 2, 6, .inr (.inr (.inr (.inr (fun j => some (rd j)))))))] := hD
  refine lv_astore (lv' := [(6, .ref q9), (0, .ref lo), (1, .int i), (2, .int x0), (3, .int x1), (4, .int x2), (5, .ref ou)]) hx hb dL_writeText_17 hl (by decide) rfl (fun ls hl => ?_)
  refine lv_iconst (v := (nI 1)) hx hb dL_writeText_19 (by decide +kernel) ?_
  have hP9 := hP.sub (ws' := [(lo, .inr (2, [.ref ra, .ref d0, .ref b0, .ref t0, .ref r0])), (ra, .inl (T 2, 6, .inr (.inr (.inr (.inr (fun j => some (rd j))))))), (ou, .inl (T 3, 1, .inr (.inl o)))]) [1, 2, 0] rfl
  have hD9 := hD.sub (ws' := [(lo, .inr (2, [.ref ra, .ref d0, .ref b0, .ref t0, .ref r0])), (ra, .inl (T 2, 6, .inr (.inr (.inr (.inr (fun j => some (rd j))))))), (ou, .inl (T 3, 1, .inr (.inl o)))]) [1, 2, 0] (by decide) rfl
  refine W.widen (k := 5) (n := 1106) (by omega) (by omega) ?_
  exact W.iret (v := (nI 1)) hx hb hr (fun t ht hW => ⟨⟨(), rfl, trivial, (by rw [ht]; exact hP9), va_K.moved hW.alike hK, hD9⟩, hS.F ht⟩) hS.2.2 dL_writeText_20
set_option maxHeartbeats 4000000 in
set_option maxRecDepth 100000 in
theorem h_writeText_x2 (l : Launch) (D : va_G) (T : Nat → ClassId) (g : Nat → Nat) (sz : Nat) (hl9 : l.stackTraces = false) (lo : Nat) (ra : Nat) (d0 : Nat) (b0 : Nat) (t0 : Nat) (r0 : Nat) (rd : Nat → Nat) (i : Nat) (hi : i < 6) (j : Int32) (hj : j < 0 ∨ ¬ j < nI 6) (x0 : Int32) (x1 : Int32) (ou : Nat) (o : Nat → Int64) : MUN l yL_writeText wsL_writeText ({ frames := 80, cells := 5, slots := 1106, locals := 4000 } : Room) D T g [.ref lo, .int (nI i), .int j, .int x0, .int x1, .ref ou] [(lo, .inr (2, [.ref ra, .ref d0, .ref b0, .ref t0, .ref r0])), (ra, .inl (T 2, 6, .inr (.inr (.inr (.inr (fun j => some (rd j))))))), (ou, .inl (T 3, 1, .inr (.inl o)))] sz (fun u : Unit => some (.int (nI 1))) (fun u : Unit => True) (fun u : Unit => [(lo, .inr (2, [.ref ra, .ref d0, .ref b0, .ref t0, .ref r0])), (ra, .inl (T 2, 6, .inr (.inr (.inr (.inr (fun j => some (rd j))))))), (ou, .inl (T 3, 1, .inr (.inl o)))]) 5 1106 := by
  refine va_MetW (hh := [(0, 14, 17, 13), (0, 14, 21, 15), (0, 14, 25, 17)]) (cc := cL_writeText) (maxL := 7) (ret := (some .int)) (by decide) rfl ?_
  intro p e s m args below meth c s₁ B hml hv
  obtain ⟨rfl, ⟨hsz, hP, hK, hD0, hG⟩, hN⟩ := hv
  have hx := B.exec
  have hb := B.bytes
  have hr := B.returns
  have hts := atoms_spec (ws := wsL_writeText) B.pre
  have hown : s.vm.findClass RL = some m.cls := findClass_of_methodNamed B.named
  have hlocks := B.notSynchronized
  have htab : c.exceptionTable.toList = tableOf [(0, 14, 17, 13), (0, 14, 21, 15), (0, 14, 25, 17)] := vx_table (x := yL_add) B (hts _ (List.mem_of_getElem? (i := 0) rfl))
  subst hsz
  have hD := hD0.self (sz := s.heap.size)
  generalize hAe : va_A [(lo, .inr (2, [.ref ra, .ref d0, .ref b0, .ref t0, .ref r0])), (ra, .inl (T 2, 6, .inr (.inr (.inr (.inr (fun j => some (rd j))))))), (ou, .inl (T 3, 1, .inr (.inl o)))] s.heap.size = A at hD hG ⊢
  have hA : ∀ q : Nat, s.heap.size ≤ q → A q := fun q h => by rw [← hAe]; exact Or.inr h
  have hS : va_S A s.heap s.heap [] := va_S.rf
  have hP : va_P D cls [(lo, .inr (2, [.ref ra, .ref d0, .ref b0, .ref t0, .ref r0])), (ra, .inl (T 2, 6, .inr (.inr (.inr (.inr (fun j => some (rd j))))))), (ou, .inl (T 3, 1, .inr (.inl o)))] s.heap := hP
  have hl := lv_entry ([.ref lo, .int (nI i), .int j, .int x0, .int x1, .ref ou]) (n := 7) (Nat.le_of_ble_eq_true rfl)
  rw [lg_entry_eq]
  generalize (lg_sl ([.ref lo, .int (nI i), .int j, .int x0, .int x1, .ref ou]) ++ List.replicate (7 - (lg_sl ([.ref lo, .int (nI i), .int j, .int x0, .int x1, .ref ou])).length) Slot.unset).toArray = ls at hl ⊢
  have hl : lv_has ls 7 [(0, .ref lo), (1, .int (nI i)), (2, .int j), (3, .int x0), (4, .int x1), (5, .ref ou)] := hl
  refine lv_aload hx hb dL_writeText_0 (lv_at hl 5 rfl) ?_
  refine lv_iconst (v := (nI 0)) hx hb dL_writeText_2 (by decide +kernel) ?_
  refine lv_aload_n hx hb dL_writeText_3 rfl (lv_at hl 0 rfl) ?_
  refine lv_iload_n hx hb dL_writeText_4 rfl (lv_at hl 1 rfl) ?_
  refine lv_iload_n hx hb dL_writeText_5 rfl (lv_at hl 2 rfl) ?_
  refine lv_iload_n hx hb dL_writeText_6 rfl (lv_at hl 3 rfl) ?_
  refine lv_iload hx hb dL_writeText_7 (lv_at hl 4 rfl) ?_
  refine tc_V (hpc := 17) (As := [.int (nI i), .int j, .int x0, .int x1]) (rest := [.int (nI 0), .ref ou]) (wc := [(lo, .inr (2, [.ref ra, .ref d0, .ref b0, .ref t0, .ref r0])), (ra, .inl (T 2, 6, .inr (.inr (.inr (.inr (fun j => some (rd j)))))))]) (wr := [(ou, .inl (T 3, 1, .inr (.inl o)))]) ⟨hx, hb, hml, hown, hts⟩ (c_writeText_x2 l D T g s.heap.size (hl9) lo ra d0 b0 t0 r0 rd i (hi) j (hj) x0 x1) (cwV 4 hts gL_writeText_X5_writeText rfl rfl rfl (by decide +kernel) ⟨Nat.le_of_ble_eq_true rfl, Nat.le_of_ble_eq_true rfl⟩) (va_recv hK hP (ci := 2) (q0 := 0) rfl rfl) hP hD hK hG hS hA [0, 1] [2] rfl (by decide) rfl (by decide) (by decide) ⟨Nat.le_of_ble_eq_true rfl, Nat.le_of_ble_eq_true rfl⟩ rfl hl.1 (Nat.le_of_ble_eq_true rfl) dL_writeText_9 rfl (fun H1 locs1 q9 ce h1 h2 h3 k9 => vx_catch (name := "java/lang/IndexOutOfBoundsException") hown [] ⟨0, 14, 17, 13⟩ [⟨0, 14, 21, 15⟩, ⟨0, 14, 25, 17⟩] (htab.trans rfl) (fun _ h => absurd h List.not_mem_nil) (by decide) (by decide) (hts _ (List.mem_of_getElem? (i := 1) rfl)) (va_Yc.word (hN.2 _ (List.mem_of_getElem? (i := 0) rfl))) h1 h2 h3 k9) (fun u q9 H locs hq1 hP hD hS => ?_)
  refine W.widen (k := 1) (n := 6) (Nat.le_of_ble_eq_true rfl) (Nat.le_of_ble_eq_true rfl) ?_
  have hP : va_P D cls [(ou, .inl (T 3, 1, .inr (.inl o))), (lo, .inr (2, [.ref ra, .ref d0, .ref b0, .ref t0, .ref r0])), (ra, .inl (T 2, 6, .inr (.inr (.inr (.inr (fun j => some (rd j)))))))] H := hP
  have hD : va_D A [(ou, .inl (T 3, 1, .inr (.inl o))), (lo, .inr (2, [.ref ra, .ref d0, .ref b0, .ref t0, .ref r0])), (ra, .inl (T 2, 6, .inr (.inr (.inr (.inr (fun j => some (rd j)))))))] := hD
  refine lv_astore (lv' := [(6, .ref q9), (0, .ref lo), (1, .int (nI i)), (2, .int j), (3, .int x0), (4, .int x1), (5, .ref ou)]) hx hb dL_writeText_17 hl (by decide) rfl (fun ls hl => ?_)
  refine lv_iconst (v := (nI 1)) hx hb dL_writeText_19 (by decide +kernel) ?_
  have hP9 := hP.sub (ws' := [(lo, .inr (2, [.ref ra, .ref d0, .ref b0, .ref t0, .ref r0])), (ra, .inl (T 2, 6, .inr (.inr (.inr (.inr (fun j => some (rd j))))))), (ou, .inl (T 3, 1, .inr (.inl o)))]) [1, 2, 0] rfl
  have hD9 := hD.sub (ws' := [(lo, .inr (2, [.ref ra, .ref d0, .ref b0, .ref t0, .ref r0])), (ra, .inl (T 2, 6, .inr (.inr (.inr (.inr (fun j => some (rd j))))))), (ou, .inl (T 3, 1, .inr (.inl o)))]) [1, 2, 0] (by decide) rfl
  refine W.widen (k := 5) (n := 1106) (by omega) (by omega) ?_
  exact W.iret (v := (nI 1)) hx hb hr (fun t ht hW => ⟨⟨(), rfl, trivial, (by rw [ht]; exact hP9), va_K.moved hW.alike hK, hD9⟩, hS.F ht⟩) hS.2.2 dL_writeText_20
set_option maxHeartbeats 4000000 in
set_option maxRecDepth 100000 in
theorem h_writeText_x3 (l : Launch) (D : va_G) (T : Nat → ClassId) (g : Nat → Nat) (sz : Nat) (hl9 : l.stackTraces = false) (lo : Nat) (ra : Nat) (d0 : Nat) (b0 : Nat) (t0 : Nat) (r0 : Nat) (rd : Nat → Nat) (i : Nat) (j : Nat) (hi : i < 6) (hj : j < 6) (k : Int32) (hk : k < 0 ∨ ¬ k < nI 3) (x0 : Int32) (ou : Nat) (o : Nat → Int64) : MUN l yL_writeText wsL_writeText ({ frames := 80, cells := 5, slots := 1106, locals := 4000 } : Room) D T g [.ref lo, .int (nI i), .int (nI j), .int k, .int x0, .ref ou] [(lo, .inr (2, [.ref ra, .ref d0, .ref b0, .ref t0, .ref r0])), (ra, .inl (T 2, 6, .inr (.inr (.inr (.inr (fun j => some (rd j))))))), (ou, .inl (T 3, 1, .inr (.inl o)))] sz (fun u : Unit => some (.int (nI 2))) (fun u : Unit => True) (fun u : Unit => [(lo, .inr (2, [.ref ra, .ref d0, .ref b0, .ref t0, .ref r0])), (ra, .inl (T 2, 6, .inr (.inr (.inr (.inr (fun j => some (rd j))))))), (ou, .inl (T 3, 1, .inr (.inl o)))]) 5 1106 := by
  refine va_MetW (hh := [(0, 14, 17, 13), (0, 14, 21, 15), (0, 14, 25, 17)]) (cc := cL_writeText) (maxL := 7) (ret := (some .int)) (by decide) rfl ?_
  intro p e s m args below meth c s₁ B hml hv
  obtain ⟨rfl, ⟨hsz, hP, hK, hD0, hG⟩, hN⟩ := hv
  have hx := B.exec
  have hb := B.bytes
  have hr := B.returns
  have hts := atoms_spec (ws := wsL_writeText) B.pre
  have hown : s.vm.findClass RL = some m.cls := findClass_of_methodNamed B.named
  have hlocks := B.notSynchronized
  have htab : c.exceptionTable.toList = tableOf [(0, 14, 17, 13), (0, 14, 21, 15), (0, 14, 25, 17)] := vx_table (x := yL_add) B (hts _ (List.mem_of_getElem? (i := 0) rfl))
  subst hsz
  have hD := hD0.self (sz := s.heap.size)
  generalize hAe : va_A [(lo, .inr (2, [.ref ra, .ref d0, .ref b0, .ref t0, .ref r0])), (ra, .inl (T 2, 6, .inr (.inr (.inr (.inr (fun j => some (rd j))))))), (ou, .inl (T 3, 1, .inr (.inl o)))] s.heap.size = A at hD hG ⊢
  have hA : ∀ q : Nat, s.heap.size ≤ q → A q := fun q h => by rw [← hAe]; exact Or.inr h
  have hS : va_S A s.heap s.heap [] := va_S.rf
  have hP : va_P D cls [(lo, .inr (2, [.ref ra, .ref d0, .ref b0, .ref t0, .ref r0])), (ra, .inl (T 2, 6, .inr (.inr (.inr (.inr (fun j => some (rd j))))))), (ou, .inl (T 3, 1, .inr (.inl o)))] s.heap := hP
  have hl := lv_entry ([.ref lo, .int (nI i), .int (nI j), .int k, .int x0, .ref ou]) (n := 7) (Nat.le_of_ble_eq_true rfl)
  rw [lg_entry_eq]
  generalize (lg_sl ([.ref lo, .int (nI i), .int (nI j), .int k, .int x0, .ref ou]) ++ List.replicate (7 - (lg_sl ([.ref lo, .int (nI i), .int (nI j), .int k, .int x0, .ref ou])).length) Slot.unset).toArray = ls at hl ⊢
  have hl : lv_has ls 7 [(0, .ref lo), (1, .int (nI i)), (2, .int (nI j)), (3, .int k), (4, .int x0), (5, .ref ou)] := hl
  refine lv_aload hx hb dL_writeText_0 (lv_at hl 5 rfl) ?_
  refine lv_iconst (v := (nI 0)) hx hb dL_writeText_2 (by decide +kernel) ?_
  refine lv_aload_n hx hb dL_writeText_3 rfl (lv_at hl 0 rfl) ?_
  refine lv_iload_n hx hb dL_writeText_4 rfl (lv_at hl 1 rfl) ?_
  refine lv_iload_n hx hb dL_writeText_5 rfl (lv_at hl 2 rfl) ?_
  refine lv_iload_n hx hb dL_writeText_6 rfl (lv_at hl 3 rfl) ?_
  refine lv_iload hx hb dL_writeText_7 (lv_at hl 4 rfl) ?_
  refine tc_V (hpc := 21) (As := [.int (nI i), .int (nI j), .int k, .int x0]) (rest := [.int (nI 0), .ref ou]) (wc := [(lo, .inr (2, [.ref ra, .ref d0, .ref b0, .ref t0, .ref r0])), (ra, .inl (T 2, 6, .inr (.inr (.inr (.inr (fun j => some (rd j)))))))]) (wr := [(ou, .inl (T 3, 1, .inr (.inl o)))]) ⟨hx, hb, hml, hown, hts⟩ (c_writeText_x3 l D T g s.heap.size (hl9) lo ra d0 b0 t0 r0 rd i j (hi) (hj) k (hk) x0) (cwV 4 hts gL_writeText_X5_writeText rfl rfl rfl (by decide +kernel) ⟨Nat.le_of_ble_eq_true rfl, Nat.le_of_ble_eq_true rfl⟩) (va_recv hK hP (ci := 2) (q0 := 0) rfl rfl) hP hD hK hG hS hA [0, 1] [2] rfl (by decide) rfl (by decide) (by decide) ⟨Nat.le_of_ble_eq_true rfl, Nat.le_of_ble_eq_true rfl⟩ rfl hl.1 (Nat.le_of_ble_eq_true rfl) dL_writeText_9 rfl (fun H1 locs1 q9 ce h1 h2 h3 k9 => vx_catch (name := "java/lang/IllegalArgumentException") hown [⟨0, 14, 17, 13⟩] ⟨0, 14, 21, 15⟩ [⟨0, 14, 25, 17⟩] (htab.trans rfl) (List.forall_mem_cons.mpr ⟨Or.inr ⟨by decide, "java/lang/IndexOutOfBoundsException", (hts _ (List.mem_of_getElem? (i := 1) rfl)), hN.1 _ (List.mem_of_getElem? (i := 0) rfl)⟩, (fun _ h => absurd h List.not_mem_nil)⟩) (by decide) (by decide) (hts _ (List.mem_of_getElem? (i := 2) rfl)) (va_Yc.word (hN.2 _ (List.mem_of_getElem? (i := 1) rfl))) h1 h2 h3 k9) (fun u q9 H locs hq1 hP hD hS => ?_)
  refine W.widen (k := 1) (n := 6) (Nat.le_of_ble_eq_true rfl) (Nat.le_of_ble_eq_true rfl) ?_
  have hP : va_P D cls [(ou, .inl (T 3, 1, .inr (.inl o))), (lo, .inr (2, [.ref ra, .ref d0, .ref b0, .ref t0, .ref r0])), (ra, .inl (T 2, 6, .inr (.inr (.inr (.inr (fun j => some (rd j)))))))] H := hP
  have hD : va_D A [(ou, .inl (T 3, 1, .inr (.inl o))), (lo, .inr (2, [.ref ra, .ref d0, .ref b0, .ref t0, .ref r0])), (ra, .inl (T 2, 6, .inr (.inr (.inr (.inr (fun j => some (rd j)))))))] := hD
  refine lv_astore (lv' := [(6, .ref q9), (0, .ref lo), (1, .int (nI i)), (2, .int (nI j)), (3, .int k), (4, .int x0), (5, .ref ou)]) hx hb dL_writeText_21 hl (by decide) rfl (fun ls hl => ?_)
  refine lv_iconst (v := (nI 2)) hx hb dL_writeText_23 (by decide +kernel) ?_
  have hP9 := hP.sub (ws' := [(lo, .inr (2, [.ref ra, .ref d0, .ref b0, .ref t0, .ref r0])), (ra, .inl (T 2, 6, .inr (.inr (.inr (.inr (fun j => some (rd j))))))), (ou, .inl (T 3, 1, .inr (.inl o)))]) [1, 2, 0] rfl
  have hD9 := hD.sub (ws' := [(lo, .inr (2, [.ref ra, .ref d0, .ref b0, .ref t0, .ref r0])), (ra, .inl (T 2, 6, .inr (.inr (.inr (.inr (fun j => some (rd j))))))), (ou, .inl (T 3, 1, .inr (.inl o)))]) [1, 2, 0] (by decide) rfl
  refine W.widen (k := 5) (n := 1106) (by omega) (by omega) ?_
  exact W.iret (v := (nI 2)) hx hb hr (fun t ht hW => ⟨⟨(), rfl, trivial, (by rw [ht]; exact hP9), va_K.moved hW.alike hK, hD9⟩, hS.F ht⟩) hS.2.2 dL_writeText_24
set_option maxHeartbeats 4000000 in
set_option maxRecDepth 100000 in
theorem h_writeText_x4 (l : Launch) (D : va_G) (T : Nat → ClassId) (g : Nat → Nat) (sz : Nat) (hl9 : l.stackTraces = false) (lo : Nat) (ra : Nat) (d0 : Nat) (b0 : Nat) (t0 : Nat) (r0 : Nat) (rd : Nat → Nat) (i : Nat) (q0 : Nat) (f : Nat → Int32) (n : Nat) (j : Nat) (k : Nat) (hk : k < 3) (fl : Nat) (hi : i < 6) (hj : j < 6) (hn : n ≤ 320 ∧ fl < 2) (hm : 320 < lnN k n fl) (ou : Nat) (o : Nat → Int64) : MUN l yL_writeText wsL_writeText ({ frames := 80, cells := 5, slots := 1106, locals := 4000 } : Room) D T g [.ref lo, .int (nI i), .int (nI j), .int (nI k), .int (nI fl), .ref ou] [(lo, .inr (2, [.ref ra, .ref d0, .ref b0, .ref t0, .ref r0])), (ra, .inl (T 2, 6, .inr (.inr (.inr (.inr (fun j => some (rd j))))))), (rd i, .inr (0, [.ref q0, .int (nI n)])), (q0, .inl (T 0, 440, .inl f)), (ou, .inl (T 3, 1, .inr (.inl o)))] sz (fun u : Unit => some (.int (nI 3))) (fun u : Unit => True) (fun u : Unit => [(lo, .inr (2, [.ref ra, .ref d0, .ref b0, .ref t0, .ref r0])), (ra, .inl (T 2, 6, .inr (.inr (.inr (.inr (fun j => some (rd j))))))), (rd i, .inr (0, [.ref q0, .int (nI n)])), (q0, .inl (T 0, 440, .inl f)), (ou, .inl (T 3, 1, .inr (.inl o)))]) 5 1106 := by
  refine va_MetW (hh := [(0, 14, 17, 13), (0, 14, 21, 15), (0, 14, 25, 17)]) (cc := cL_writeText) (maxL := 7) (ret := (some .int)) (by decide) rfl ?_
  intro p e s m args below meth c s₁ B hml hv
  obtain ⟨rfl, ⟨hsz, hP, hK, hD0, hG⟩, hN⟩ := hv
  have hx := B.exec
  have hb := B.bytes
  have hr := B.returns
  have hts := atoms_spec (ws := wsL_writeText) B.pre
  have hown : s.vm.findClass RL = some m.cls := findClass_of_methodNamed B.named
  have hlocks := B.notSynchronized
  have htab : c.exceptionTable.toList = tableOf [(0, 14, 17, 13), (0, 14, 21, 15), (0, 14, 25, 17)] := vx_table (x := yL_add) B (hts _ (List.mem_of_getElem? (i := 0) rfl))
  subst hsz
  have hD := hD0.self (sz := s.heap.size)
  generalize hAe : va_A [(lo, .inr (2, [.ref ra, .ref d0, .ref b0, .ref t0, .ref r0])), (ra, .inl (T 2, 6, .inr (.inr (.inr (.inr (fun j => some (rd j))))))), (rd i, .inr (0, [.ref q0, .int (nI n)])), (q0, .inl (T 0, 440, .inl f)), (ou, .inl (T 3, 1, .inr (.inl o)))] s.heap.size = A at hD hG ⊢
  have hA : ∀ q : Nat, s.heap.size ≤ q → A q := fun q h => by rw [← hAe]; exact Or.inr h
  have hS : va_S A s.heap s.heap [] := va_S.rf
  have hP : va_P D cls [(lo, .inr (2, [.ref ra, .ref d0, .ref b0, .ref t0, .ref r0])), (ra, .inl (T 2, 6, .inr (.inr (.inr (.inr (fun j => some (rd j))))))), (rd i, .inr (0, [.ref q0, .int (nI n)])), (q0, .inl (T 0, 440, .inl f)), (ou, .inl (T 3, 1, .inr (.inl o)))] s.heap := hP
  have hl := lv_entry ([.ref lo, .int (nI i), .int (nI j), .int (nI k), .int (nI fl), .ref ou]) (n := 7) (Nat.le_of_ble_eq_true rfl)
  rw [lg_entry_eq]
  generalize (lg_sl ([.ref lo, .int (nI i), .int (nI j), .int (nI k), .int (nI fl), .ref ou]) ++ List.replicate (7 - (lg_sl ([.ref lo, .int (nI i), .int (nI j), .int (nI k), .int (nI fl), .ref ou])).length) Slot.unset).toArray = ls at hl ⊢
  have hl : lv_has ls 7 [(0, .ref lo), (1, .int (nI i)), (2, .int (nI j)), (3, .int (nI k)), (4, .int (nI fl)), (5, .ref ou)] := hl
  refine lv_aload hx hb dL_writeText_0 (lv_at hl 5 rfl) ?_
  refine lv_iconst (v := (nI 0)) hx hb dL_writeText_2 (by decide +kernel) ?_
  refine lv_aload_n hx hb dL_writeText_3 rfl (lv_at hl 0 rfl) ?_
  refine lv_iload_n hx hb dL_writeText_4 rfl (lv_at hl 1 rfl) ?_
  refine lv_iload_n hx hb dL_writeText_5 rfl (lv_at hl 2 rfl) ?_
  refine lv_iload_n hx hb dL_writeText_6 rfl (lv_at hl 3 rfl) ?_
  refine lv_iload hx hb dL_writeText_7 (lv_at hl 4 rfl) ?_
  refine tc_V (hpc := 25) (As := [.int (nI i), .int (nI j), .int (nI k), .int (nI fl)]) (rest := [.int (nI 0), .ref ou]) (wc := [(lo, .inr (2, [.ref ra, .ref d0, .ref b0, .ref t0, .ref r0])), (ra, .inl (T 2, 6, .inr (.inr (.inr (.inr (fun j => some (rd j))))))), (rd i, .inr (0, [.ref q0, .int (nI n)])), (q0, .inl (T 0, 440, .inl f))]) (wr := [(ou, .inl (T 3, 1, .inr (.inl o)))]) ⟨hx, hb, hml, hown, hts⟩ (c_writeText_x4 l D T g s.heap.size (hl9) lo ra d0 b0 t0 r0 rd i q0 f n j k (hk) fl (hi) (hj) (hn) (hm)) (cwV 4 hts gL_writeText_X5_writeText rfl rfl rfl (by decide +kernel) ⟨Nat.le_of_ble_eq_true rfl, Nat.le_of_ble_eq_true rfl⟩) (va_recv hK hP (ci := 2) (q0 := 0) rfl rfl) hP hD hK hG hS hA [0, 1, 2, 3] [4] rfl (by decide) rfl (by decide) (by decide) ⟨Nat.le_of_ble_eq_true rfl, Nat.le_of_ble_eq_true rfl⟩ rfl hl.1 (Nat.le_of_ble_eq_true rfl) dL_writeText_9 rfl (fun H1 locs1 q9 ce h1 h2 h3 k9 => vx_catch (name := "java/lang/IllegalStateException") hown [⟨0, 14, 17, 13⟩, ⟨0, 14, 21, 15⟩] ⟨0, 14, 25, 17⟩ [] (htab.trans rfl) (List.forall_mem_cons.mpr ⟨Or.inr ⟨by decide, "java/lang/IndexOutOfBoundsException", (hts _ (List.mem_of_getElem? (i := 1) rfl)), hN.1 _ (List.mem_of_getElem? (i := 1) rfl)⟩, (List.forall_mem_cons.mpr ⟨Or.inr ⟨by decide, "java/lang/IllegalArgumentException", (hts _ (List.mem_of_getElem? (i := 2) rfl)), hN.1 _ (List.mem_of_getElem? (i := 2) rfl)⟩, (fun _ h => absurd h List.not_mem_nil)⟩)⟩) (by decide) (by decide) (hts _ (List.mem_of_getElem? (i := 3) rfl)) (va_Yc.word (hN.2 _ (List.mem_of_getElem? (i := 2) rfl))) h1 h2 h3 k9) (fun u q9 H locs hq1 hP hD hS => ?_)
  refine W.widen (k := 1) (n := 6) (Nat.le_of_ble_eq_true rfl) (Nat.le_of_ble_eq_true rfl) ?_
  have hP : va_P D cls [(ou, .inl (T 3, 1, .inr (.inl o))), (lo, .inr (2, [.ref ra, .ref d0, .ref b0, .ref t0, .ref r0])), (ra, .inl (T 2, 6, .inr (.inr (.inr (.inr (fun j => some (rd j))))))), (rd i, .inr (0, [.ref q0, .int (nI n)])), (q0, .inl (T 0, 440, .inl f))] H := hP
  have hD : va_D A [(ou, .inl (T 3, 1, .inr (.inl o))), (lo, .inr (2, [.ref ra, .ref d0, .ref b0, .ref t0, .ref r0])), (ra, .inl (T 2, 6, .inr (.inr (.inr (.inr (fun j => some (rd j))))))), (rd i, .inr (0, [.ref q0, .int (nI n)])), (q0, .inl (T 0, 440, .inl f))] := hD
  refine lv_astore (lv' := [(6, .ref q9), (0, .ref lo), (1, .int (nI i)), (2, .int (nI j)), (3, .int (nI k)), (4, .int (nI fl)), (5, .ref ou)]) hx hb dL_writeText_25 hl (by decide) rfl (fun ls hl => ?_)
  refine lv_iconst (v := (nI 3)) hx hb dL_writeText_27 (by decide +kernel) ?_
  have hP9 := hP.sub (ws' := [(lo, .inr (2, [.ref ra, .ref d0, .ref b0, .ref t0, .ref r0])), (ra, .inl (T 2, 6, .inr (.inr (.inr (.inr (fun j => some (rd j))))))), (rd i, .inr (0, [.ref q0, .int (nI n)])), (q0, .inl (T 0, 440, .inl f)), (ou, .inl (T 3, 1, .inr (.inl o)))]) [1, 2, 3, 4, 0] rfl
  have hD9 := hD.sub (ws' := [(lo, .inr (2, [.ref ra, .ref d0, .ref b0, .ref t0, .ref r0])), (ra, .inl (T 2, 6, .inr (.inr (.inr (.inr (fun j => some (rd j))))))), (rd i, .inr (0, [.ref q0, .int (nI n)])), (q0, .inl (T 0, 440, .inl f)), (ou, .inl (T 3, 1, .inr (.inl o)))]) [1, 2, 3, 4, 0] (by decide) rfl
  refine W.widen (k := 5) (n := 1106) (by omega) (by omega) ?_
  exact W.iret (v := (nI 3)) hx hb hr (fun t ht hW => ⟨⟨(), rfl, trivial, (by rw [ht]; exact hP9), va_K.moved hW.alike hK, hD9⟩, hS.F ht⟩) hS.2.2 dL_writeText_28
set_option maxHeartbeats 4000000 in
set_option maxRecDepth 100000 in
theorem h_writeText (l : Launch) (D : va_G) (T : Nat → ClassId) (g : Nat → Nat) (sz : Nat) (lo : Nat) (ra : Nat) (d0 : Nat) (b0 : Nat) (t0 : Nat) (r0 : Nat) (rd : Nat → Nat) (i : Nat) (q0 : Nat) (f : Nat → Int32) (n : Nat) (j : Nat) (q1 : Nat) (f1 : Nat → Int32) (n1 : Nat) (tv : Nat) (ml : Int32) (cnt : Nat) (k0 : Nat) (fb : Nat → Int32) (htb : sb_Fit fb) (hk0 : k0 ≤ 5 ∧ cnt ≤ 574) (b : Nat → Nat) (hb9 : RB f n b) (k : Nat) (hk : k < 3) (fl : Nat) (hn : n ≤ 320 ∧ fl < 2) (hm : lnN k n fl ≤ 320) (hi : i < 6) (hj : j < 6) (ou : Nat) (o : Nat → Int64) : MUN l yL_writeText wsL_writeText ({ frames := 80, cells := 5, slots := 1106, locals := 4000 } : Room) D T g [.ref lo, .int (nI i), .int (nI j), .int (nI k), .int (nI fl), .ref ou] [(lo, .inr (2, [.ref ra, .ref d0, .ref b0, .ref t0, .ref r0])), (ra, .inl (T 2, 6, .inr (.inr (.inr (.inr (fun j => some (rd j))))))), (rd i, .inr (0, [.ref q0, .int (nI n)])), (q0, .inl (T 0, 440, .inl f)), (rd j, .inr (0, [.ref q1, .int (nI n1)])), (q1, .inl (T 0, 440, .inl f1)), (t0, .inr (4, [.ref tv, .int (nI 0), .int ml, .int (nI cnt)])), (tv, .inl (T 1, capL k0, .inl fb)), (ou, .inl (T 3, 1, .inr (.inl o)))] sz (fun u : Nat × Int32 × (Nat → Int32) × (Nat → Int32) => some (.int (nI 0))) (fun u : Nat × Int32 × (Nat → Int32) × (Nat → Int32) => RB u.2.2.2 (lnN k n fl) (wrA k n b) ∧ sb_Fit u.2.2.1) (fun u : Nat × Int32 × (Nat → Int32) × (Nat → Int32) => [(lo, .inr (2, [.ref ra, .ref d0, .ref b0, .ref t0, .ref r0])), (ra, .inl (T 2, 6, .inr (.inr (.inr (.inr (fun j => some (rd j))))))), (rd i, .inr (0, [.ref q0, .int (nI n)])), (q0, .inl (T 0, 440, .inl f)), (rd j, .inr (0, [.ref q1, .int (nI (lnN k n fl))])), (q1, .inl (T 0, 440, .inl u.2.2.2)), (t0, .inr (4, [.ref u.1, .int (nI 0), .int u.2.1, .int (nI (lnN k n fl))])), (u.1, .inl (T 1, capL (lvL k0 (lnN k n fl)), .inl u.2.2.1)), (ou, .inl (T 3, 1, .inr (.inl (vp_updL o 0 (lN (lnN k n fl))))))]) 5 1106 := by
  refine va_MetW (hh := [(0, 14, 17, 13), (0, 14, 21, 15), (0, 14, 25, 17)]) (cc := cL_writeText) (maxL := 7) (ret := (some .int)) (by decide) rfl ?_
  intro p e s m args below meth c s₁ B hml hv
  obtain ⟨rfl, ⟨hsz, hP, hK, hD0, hG⟩, hN⟩ := hv
  have hx := B.exec
  have hb := B.bytes
  have hr := B.returns
  have hts := atoms_spec (ws := wsL_writeText) B.pre
  have hown : s.vm.findClass RL = some m.cls := findClass_of_methodNamed B.named
  have hlocks := B.notSynchronized
  have htab : c.exceptionTable.toList = tableOf [(0, 14, 17, 13), (0, 14, 21, 15), (0, 14, 25, 17)] := vx_table (x := yL_add) B (hts _ (List.mem_of_getElem? (i := 0) rfl))
  subst hsz
  have hD := hD0.self (sz := s.heap.size)
  generalize hAe : va_A [(lo, .inr (2, [.ref ra, .ref d0, .ref b0, .ref t0, .ref r0])), (ra, .inl (T 2, 6, .inr (.inr (.inr (.inr (fun j => some (rd j))))))), (rd i, .inr (0, [.ref q0, .int (nI n)])), (q0, .inl (T 0, 440, .inl f)), (rd j, .inr (0, [.ref q1, .int (nI n1)])), (q1, .inl (T 0, 440, .inl f1)), (t0, .inr (4, [.ref tv, .int (nI 0), .int ml, .int (nI cnt)])), (tv, .inl (T 1, capL k0, .inl fb)), (ou, .inl (T 3, 1, .inr (.inl o)))] s.heap.size = A at hD hG ⊢
  have hA : ∀ q : Nat, s.heap.size ≤ q → A q := fun q h => by rw [← hAe]; exact Or.inr h
  have hS : va_S A s.heap s.heap [] := va_S.rf
  have hP : va_P D cls [(lo, .inr (2, [.ref ra, .ref d0, .ref b0, .ref t0, .ref r0])), (ra, .inl (T 2, 6, .inr (.inr (.inr (.inr (fun j => some (rd j))))))), (rd i, .inr (0, [.ref q0, .int (nI n)])), (q0, .inl (T 0, 440, .inl f)), (rd j, .inr (0, [.ref q1, .int (nI n1)])), (q1, .inl (T 0, 440, .inl f1)), (t0, .inr (4, [.ref tv, .int (nI 0), .int ml, .int (nI cnt)])), (tv, .inl (T 1, capL k0, .inl fb)), (ou, .inl (T 3, 1, .inr (.inl o)))] s.heap := hP
  have hl := lv_entry ([.ref lo, .int (nI i), .int (nI j), .int (nI k), .int (nI fl), .ref ou]) (n := 7) (Nat.le_of_ble_eq_true rfl)
  rw [lg_entry_eq]
  generalize (lg_sl ([.ref lo, .int (nI i), .int (nI j), .int (nI k), .int (nI fl), .ref ou]) ++ List.replicate (7 - (lg_sl ([.ref lo, .int (nI i), .int (nI j), .int (nI k), .int (nI fl), .ref ou])).length) Slot.unset).toArray = ls at hl ⊢
  have hl : lv_has ls 7 [(0, .ref lo), (1, .int (nI i)), (2, .int (nI j)), (3, .int (nI k)), (4, .int (nI fl)), (5, .ref ou)] := hl
  have hle := lnN_le (k := k) (fl := fl) hn.1
  have hge := lvL_ge k0 (lnN k n fl)
  have hv5 := lvL_le hk0.1 (lnN k n fl) (by omega)
  have hs5 : slL (lvL k0 (lnN k n fl)) ≤ 1106 := slL_mono hv5
  have hs6 := slL_mono hge
  refine lv_aload hx hb dL_writeText_0 (lv_at hl 5 rfl) ?_
  refine lv_iconst (v := (nI 0)) hx hb dL_writeText_2 (by decide +kernel) ?_
  refine lv_aload_n hx hb dL_writeText_3 rfl (lv_at hl 0 rfl) ?_
  refine lv_iload_n hx hb dL_writeText_4 rfl (lv_at hl 1 rfl) ?_
  refine lv_iload_n hx hb dL_writeText_5 rfl (lv_at hl 2 rfl) ?_
  refine lv_iload_n hx hb dL_writeText_6 rfl (lv_at hl 3 rfl) ?_
  refine lv_iload hx hb dL_writeText_7 (lv_at hl 4 rfl) ?_
  refine mu_V (As := [.int (nI i), .int (nI j), .int (nI k), .int (nI fl)]) (rest := [.int (nI 0), .ref ou]) (wc := [(lo, .inr (2, [.ref ra, .ref d0, .ref b0, .ref t0, .ref r0])), (ra, .inl (T 2, 6, .inr (.inr (.inr (.inr (fun j => some (rd j))))))), (rd i, .inr (0, [.ref q0, .int (nI n)])), (q0, .inl (T 0, 440, .inl f)), (rd j, .inr (0, [.ref q1, .int (nI n1)])), (q1, .inl (T 0, 440, .inl f1)), (t0, .inr (4, [.ref tv, .int (nI 0), .int ml, .int (nI cnt)])), (tv, .inl (T 1, capL k0, .inl fb))]) (wr := [(ou, .inl (T 3, 1, .inr (.inl o)))]) ⟨hx, hb, hml, hown, hts⟩ (c_writeText l D T g s.heap.size lo ra d0 b0 t0 r0 rd i q0 f n j q1 f1 n1 tv ml cnt k0 fb (htb) (hk0) b (hb9) k (hk) fl (hn) (hm) (hi) (hj)) (cwV 4 hts gL_writeText_X5_writeText rfl rfl rfl (by decide +kernel) ⟨Nat.le_of_ble_eq_true rfl, Nat.le_of_ble_eq_true rfl⟩) (va_recv hK hP (ci := 2) (q0 := 0) rfl rfl) hP hD hK hG hS hA [0, 1, 2, 3, 4, 5, 6, 7] [8] rfl (by decide) rfl (by decide) (by decide) ⟨by show _ ≤ 5; omega, by show _ ≤ 1106; omega⟩ rfl hl.1 (Nat.le_of_ble_eq_true rfl) dL_writeText_9 rfl (fun u H locs hq5 hP hD hS => ?_)
  obtain ⟨tv2_1, ml3_2, fb2_3, F_4⟩ := u
  refine W.widen (k := lvL k0 (lnN k n fl) - k0) (n := slL (lvL k0 (lnN k n fl)) - slL k0) (Nat.le_of_eq (Nat.zero_add _)) (Nat.le_of_eq (Nat.zero_add _)) ?_
  have hP : va_P D cls [(ou, .inl (T 3, 1, .inr (.inl o))), (lo, .inr (2, [.ref ra, .ref d0, .ref b0, .ref t0, .ref r0])), (ra, .inl (T 2, 6, .inr (.inr (.inr (.inr (fun j => some (rd j))))))), (rd i, .inr (0, [.ref q0, .int (nI n)])), (q0, .inl (T 0, 440, .inl f)), (rd j, .inr (0, [.ref q1, .int (nI (lnN k n fl))])), (q1, .inl (T 0, 440, .inl F_4)), (t0, .inr (4, [.ref tv2_1, .int (nI 0), .int ml3_2, .int (nI (lnN k n fl))])), (tv2_1, .inl (T 1, capL (lvL k0 (lnN k n fl)), .inl fb2_3))] H := hP
  have hD : va_D A [(ou, .inl (T 3, 1, .inr (.inl o))), (lo, .inr (2, [.ref ra, .ref d0, .ref b0, .ref t0, .ref r0])), (ra, .inl (T 2, 6, .inr (.inr (.inr (.inr (fun j => some (rd j))))))), (rd i, .inr (0, [.ref q0, .int (nI n)])), (q0, .inl (T 0, 440, .inl f)), (rd j, .inr (0, [.ref q1, .int (nI (lnN k n fl))])), (q1, .inl (T 0, 440, .inl F_4)), (t0, .inr (4, [.ref tv2_1, .int (nI 0), .int ml3_2, .int (nI (lnN k n fl))])), (tv2_1, .inl (T 1, capL (lvL k0 (lnN k n fl)), .inl fb2_3))] := hD
  have hp1 : RB F_4 (lnN k n fl) (wrA k n b) ∧ sb_Fit fb2_3 := hq5
  refine W.eq (g2 := F0 m 12 ls [.int (nI (lnN k n fl)), .int (nI 0), .ref ou]) rfl ?_
  refine lv_i2l hx hb dL_writeText_12 (v := lN (lnN k n fl)) (nI_l (by omega)) ?_
  refine va_last hx hb hK hP hD hS 0 3 rfl rfl (vp_in_nI (by omega) (by omega)) dL_writeText_13 (fun H locs hP hD hS => ?_)
  rw [nI_clamp (by omega)] at hP hD
  have hP : va_P D cls [(ou, .inl (T 3, 1, .inr (.inl (vp_updL o 0 (lN (lnN k n fl)))))), (lo, .inr (2, [.ref ra, .ref d0, .ref b0, .ref t0, .ref r0])), (ra, .inl (T 2, 6, .inr (.inr (.inr (.inr (fun j => some (rd j))))))), (rd i, .inr (0, [.ref q0, .int (nI n)])), (q0, .inl (T 0, 440, .inl f)), (rd j, .inr (0, [.ref q1, .int (nI (lnN k n fl))])), (q1, .inl (T 0, 440, .inl F_4)), (t0, .inr (4, [.ref tv2_1, .int (nI 0), .int ml3_2, .int (nI (lnN k n fl))])), (tv2_1, .inl (T 1, capL (lvL k0 (lnN k n fl)), .inl fb2_3))] H := hP
  have hD : va_D A [(ou, .inl (T 3, 1, .inr (.inl (vp_updL o 0 (lN (lnN k n fl)))))), (lo, .inr (2, [.ref ra, .ref d0, .ref b0, .ref t0, .ref r0])), (ra, .inl (T 2, 6, .inr (.inr (.inr (.inr (fun j => some (rd j))))))), (rd i, .inr (0, [.ref q0, .int (nI n)])), (q0, .inl (T 0, 440, .inl f)), (rd j, .inr (0, [.ref q1, .int (nI (lnN k n fl))])), (q1, .inl (T 0, 440, .inl F_4)), (t0, .inr (4, [.ref tv2_1, .int (nI 0), .int ml3_2, .int (nI (lnN k n fl))])), (tv2_1, .inl (T 1, capL (lvL k0 (lnN k n fl)), .inl fb2_3))] := hD
  refine lv_goto (tgt := 29) hx hb dL_writeText_14 (by decide) ?_
  refine lv_iconst (v := (nI 0)) hx hb dL_writeText_29 (by decide +kernel) ?_
  have hP9 := hP.sub (ws' := [(lo, .inr (2, [.ref ra, .ref d0, .ref b0, .ref t0, .ref r0])), (ra, .inl (T 2, 6, .inr (.inr (.inr (.inr (fun j => some (rd j))))))), (rd i, .inr (0, [.ref q0, .int (nI n)])), (q0, .inl (T 0, 440, .inl f)), (rd j, .inr (0, [.ref q1, .int (nI (lnN k n fl))])), (q1, .inl (T 0, 440, .inl F_4)), (t0, .inr (4, [.ref tv2_1, .int (nI 0), .int ml3_2, .int (nI (lnN k n fl))])), (tv2_1, .inl (T 1, capL (lvL k0 (lnN k n fl)), .inl fb2_3)), (ou, .inl (T 3, 1, .inr (.inl (vp_updL o 0 (lN (lnN k n fl))))))]) [1, 2, 3, 4, 5, 6, 7, 8, 0] rfl
  have hD9 := hD.sub (ws' := [(lo, .inr (2, [.ref ra, .ref d0, .ref b0, .ref t0, .ref r0])), (ra, .inl (T 2, 6, .inr (.inr (.inr (.inr (fun j => some (rd j))))))), (rd i, .inr (0, [.ref q0, .int (nI n)])), (q0, .inl (T 0, 440, .inl f)), (rd j, .inr (0, [.ref q1, .int (nI (lnN k n fl))])), (q1, .inl (T 0, 440, .inl F_4)), (t0, .inr (4, [.ref tv2_1, .int (nI 0), .int ml3_2, .int (nI (lnN k n fl))])), (tv2_1, .inl (T 1, capL (lvL k0 (lnN k n fl)), .inl fb2_3)), (ou, .inl (T 3, 1, .inr (.inl (vp_updL o 0 (lN (lnN k n fl))))))]) [1, 2, 3, 4, 5, 6, 7, 8, 0] (by decide) rfl
  refine W.widen (k := 5) (n := 1106) (by omega) (by omega) ?_
  exact W.iret (v := (nI 0)) hx hb hr (fun t ht hW => ⟨⟨(tv2_1, ml3_2, fb2_3, F_4), rfl, show RB F_4 (lnN k n fl) (wrA k n b) ∧ sb_Fit fb2_3 from hp1, (by rw [ht]; exact hP9), va_K.moved hW.alike hK, hD9⟩, hS.F ht⟩) hS.2.2 dL_writeText_30
set_option maxHeartbeats 4000000 in
set_option maxRecDepth 100000 in
theorem h_writeText_a (l : Launch) (D : va_G) (T : Nat → ClassId) (g : Nat → Nat) (sz : Nat) (lo : Nat) (ra : Nat) (d0 : Nat) (b0 : Nat) (t0 : Nat) (r0 : Nat) (rd : Nat → Nat) (i : Nat) (q0 : Nat) (f : Nat → Int32) (n : Nat) (tv : Nat) (ml : Int32) (cnt : Nat) (k0 : Nat) (fb : Nat → Int32) (htb : sb_Fit fb) (hk0 : k0 ≤ 5 ∧ cnt ≤ 574) (b : Nat → Nat) (hb9 : RB f n b) (k : Nat) (hk : k < 3) (fl : Nat) (hn : n ≤ 320 ∧ fl < 2) (hm : lnN k n fl ≤ 320) (hi : i < 6) (ou : Nat) (o : Nat → Int64) : MUN l yL_writeText wsL_writeText ({ frames := 80, cells := 5, slots := 1106, locals := 4000 } : Room) D T g [.ref lo, .int (nI i), .int (nI i), .int (nI k), .int (nI fl), .ref ou] [(lo, .inr (2, [.ref ra, .ref d0, .ref b0, .ref t0, .ref r0])), (ra, .inl (T 2, 6, .inr (.inr (.inr (.inr (fun j => some (rd j))))))), (rd i, .inr (0, [.ref q0, .int (nI n)])), (q0, .inl (T 0, 440, .inl f)), (t0, .inr (4, [.ref tv, .int (nI 0), .int ml, .int (nI cnt)])), (tv, .inl (T 1, capL k0, .inl fb)), (ou, .inl (T 3, 1, .inr (.inl o)))] sz (fun u : Nat × Int32 × (Nat → Int32) × (Nat → Int32) => some (.int (nI 0))) (fun u : Nat × Int32 × (Nat → Int32) × (Nat → Int32) => RB u.2.2.2 (lnN k n fl) (wrA k n b) ∧ sb_Fit u.2.2.1) (fun u : Nat × Int32 × (Nat → Int32) × (Nat → Int32) => [(lo, .inr (2, [.ref ra, .ref d0, .ref b0, .ref t0, .ref r0])), (ra, .inl (T 2, 6, .inr (.inr (.inr (.inr (fun j => some (rd j))))))), (rd i, .inr (0, [.ref q0, .int (nI (lnN k n fl))])), (q0, .inl (T 0, 440, .inl u.2.2.2)), (t0, .inr (4, [.ref u.1, .int (nI 0), .int u.2.1, .int (nI (lnN k n fl))])), (u.1, .inl (T 1, capL (lvL k0 (lnN k n fl)), .inl u.2.2.1)), (ou, .inl (T 3, 1, .inr (.inl (vp_updL o 0 (lN (lnN k n fl))))))]) 5 1106 := by
  refine va_MetW (hh := [(0, 14, 17, 13), (0, 14, 21, 15), (0, 14, 25, 17)]) (cc := cL_writeText) (maxL := 7) (ret := (some .int)) (by decide) rfl ?_
  intro p e s m args below meth c s₁ B hml hv
  obtain ⟨rfl, ⟨hsz, hP, hK, hD0, hG⟩, hN⟩ := hv
  have hx := B.exec
  have hb := B.bytes
  have hr := B.returns
  have hts := atoms_spec (ws := wsL_writeText) B.pre
  have hown : s.vm.findClass RL = some m.cls := findClass_of_methodNamed B.named
  have hlocks := B.notSynchronized
  have htab : c.exceptionTable.toList = tableOf [(0, 14, 17, 13), (0, 14, 21, 15), (0, 14, 25, 17)] := vx_table (x := yL_add) B (hts _ (List.mem_of_getElem? (i := 0) rfl))
  subst hsz
  have hD := hD0.self (sz := s.heap.size)
  generalize hAe : va_A [(lo, .inr (2, [.ref ra, .ref d0, .ref b0, .ref t0, .ref r0])), (ra, .inl (T 2, 6, .inr (.inr (.inr (.inr (fun j => some (rd j))))))), (rd i, .inr (0, [.ref q0, .int (nI n)])), (q0, .inl (T 0, 440, .inl f)), (t0, .inr (4, [.ref tv, .int (nI 0), .int ml, .int (nI cnt)])), (tv, .inl (T 1, capL k0, .inl fb)), (ou, .inl (T 3, 1, .inr (.inl o)))] s.heap.size = A at hD hG ⊢
  have hA : ∀ q : Nat, s.heap.size ≤ q → A q := fun q h => by rw [← hAe]; exact Or.inr h
  have hS : va_S A s.heap s.heap [] := va_S.rf
  have hP : va_P D cls [(lo, .inr (2, [.ref ra, .ref d0, .ref b0, .ref t0, .ref r0])), (ra, .inl (T 2, 6, .inr (.inr (.inr (.inr (fun j => some (rd j))))))), (rd i, .inr (0, [.ref q0, .int (nI n)])), (q0, .inl (T 0, 440, .inl f)), (t0, .inr (4, [.ref tv, .int (nI 0), .int ml, .int (nI cnt)])), (tv, .inl (T 1, capL k0, .inl fb)), (ou, .inl (T 3, 1, .inr (.inl o)))] s.heap := hP
  have hl := lv_entry ([.ref lo, .int (nI i), .int (nI i), .int (nI k), .int (nI fl), .ref ou]) (n := 7) (Nat.le_of_ble_eq_true rfl)
  rw [lg_entry_eq]
  generalize (lg_sl ([.ref lo, .int (nI i), .int (nI i), .int (nI k), .int (nI fl), .ref ou]) ++ List.replicate (7 - (lg_sl ([.ref lo, .int (nI i), .int (nI i), .int (nI k), .int (nI fl), .ref ou])).length) Slot.unset).toArray = ls at hl ⊢
  have hl : lv_has ls 7 [(0, .ref lo), (1, .int (nI i)), (2, .int (nI i)), (3, .int (nI k)), (4, .int (nI fl)), (5, .ref ou)] := hl
  have hle := lnN_le (k := k) (fl := fl) hn.1
  have hge := lvL_ge k0 (lnN k n fl)
  have hv5 := lvL_le hk0.1 (lnN k n fl) (by omega)
  have hs5 : slL (lvL k0 (lnN k n fl)) ≤ 1106 := slL_mono hv5
  have hs6 := slL_mono hge
  refine lv_aload hx hb dL_writeText_0 (lv_at hl 5 rfl) ?_
  refine lv_iconst (v := (nI 0)) hx hb dL_writeText_2 (by decide +kernel) ?_
  refine lv_aload_n hx hb dL_writeText_3 rfl (lv_at hl 0 rfl) ?_
  refine lv_iload_n hx hb dL_writeText_4 rfl (lv_at hl 1 rfl) ?_
  refine lv_iload_n hx hb dL_writeText_5 rfl (lv_at hl 2 rfl) ?_
  refine lv_iload_n hx hb dL_writeText_6 rfl (lv_at hl 3 rfl) ?_
  refine lv_iload hx hb dL_writeText_7 (lv_at hl 4 rfl) ?_
  refine mu_V (As := [.int (nI i), .int (nI i), .int (nI k), .int (nI fl)]) (rest := [.int (nI 0), .ref ou]) (wc := [(lo, .inr (2, [.ref ra, .ref d0, .ref b0, .ref t0, .ref r0])), (ra, .inl (T 2, 6, .inr (.inr (.inr (.inr (fun j => some (rd j))))))), (rd i, .inr (0, [.ref q0, .int (nI n)])), (q0, .inl (T 0, 440, .inl f)), (t0, .inr (4, [.ref tv, .int (nI 0), .int ml, .int (nI cnt)])), (tv, .inl (T 1, capL k0, .inl fb))]) (wr := [(ou, .inl (T 3, 1, .inr (.inl o)))]) ⟨hx, hb, hml, hown, hts⟩ (c_writeText_a l D T g s.heap.size lo ra d0 b0 t0 r0 rd i q0 f n tv ml cnt k0 fb (htb) (hk0) b (hb9) k (hk) fl (hn) (hm) (hi)) (cwV 4 hts gL_writeText_X5_writeText rfl rfl rfl (by decide +kernel) ⟨Nat.le_of_ble_eq_true rfl, Nat.le_of_ble_eq_true rfl⟩) (va_recv hK hP (ci := 2) (q0 := 0) rfl rfl) hP hD hK hG hS hA [0, 1, 2, 3, 4, 5] [6] rfl (by decide) rfl (by decide) (by decide) ⟨by show _ ≤ 5; omega, by show _ ≤ 1106; omega⟩ rfl hl.1 (Nat.le_of_ble_eq_true rfl) dL_writeText_9 rfl (fun u H locs hq5 hP hD hS => ?_)
  obtain ⟨tv2_1, ml3_2, fb2_3, F_4⟩ := u
  refine W.widen (k := lvL k0 (lnN k n fl) - k0) (n := slL (lvL k0 (lnN k n fl)) - slL k0) (Nat.le_of_eq (Nat.zero_add _)) (Nat.le_of_eq (Nat.zero_add _)) ?_
  have hP : va_P D cls [(ou, .inl (T 3, 1, .inr (.inl o))), (lo, .inr (2, [.ref ra, .ref d0, .ref b0, .ref t0, .ref r0])), (ra, .inl (T 2, 6, .inr (.inr (.inr (.inr (fun j => some (rd j))))))), (rd i, .inr (0, [.ref q0, .int (nI (lnN k n fl))])), (q0, .inl (T 0, 440, .inl F_4)), (t0, .inr (4, [.ref tv2_1, .int (nI 0), .int ml3_2, .int (nI (lnN k n fl))])), (tv2_1, .inl (T 1, capL (lvL k0 (lnN k n fl)), .inl fb2_3))] H := hP
  have hD : va_D A [(ou, .inl (T 3, 1, .inr (.inl o))), (lo, .inr (2, [.ref ra, .ref d0, .ref b0, .ref t0, .ref r0])), (ra, .inl (T 2, 6, .inr (.inr (.inr (.inr (fun j => some (rd j))))))), (rd i, .inr (0, [.ref q0, .int (nI (lnN k n fl))])), (q0, .inl (T 0, 440, .inl F_4)), (t0, .inr (4, [.ref tv2_1, .int (nI 0), .int ml3_2, .int (nI (lnN k n fl))])), (tv2_1, .inl (T 1, capL (lvL k0 (lnN k n fl)), .inl fb2_3))] := hD
  have hp1 : RB F_4 (lnN k n fl) (wrA k n b) ∧ sb_Fit fb2_3 := hq5
  refine W.eq (g2 := F0 m 12 ls [.int (nI (lnN k n fl)), .int (nI 0), .ref ou]) rfl ?_
  refine lv_i2l hx hb dL_writeText_12 (v := lN (lnN k n fl)) (nI_l (by omega)) ?_
  refine va_last hx hb hK hP hD hS 0 3 rfl rfl (vp_in_nI (by omega) (by omega)) dL_writeText_13 (fun H locs hP hD hS => ?_)
  rw [nI_clamp (by omega)] at hP hD
  have hP : va_P D cls [(ou, .inl (T 3, 1, .inr (.inl (vp_updL o 0 (lN (lnN k n fl)))))), (lo, .inr (2, [.ref ra, .ref d0, .ref b0, .ref t0, .ref r0])), (ra, .inl (T 2, 6, .inr (.inr (.inr (.inr (fun j => some (rd j))))))), (rd i, .inr (0, [.ref q0, .int (nI (lnN k n fl))])), (q0, .inl (T 0, 440, .inl F_4)), (t0, .inr (4, [.ref tv2_1, .int (nI 0), .int ml3_2, .int (nI (lnN k n fl))])), (tv2_1, .inl (T 1, capL (lvL k0 (lnN k n fl)), .inl fb2_3))] H := hP
  have hD : va_D A [(ou, .inl (T 3, 1, .inr (.inl (vp_updL o 0 (lN (lnN k n fl)))))), (lo, .inr (2, [.ref ra, .ref d0, .ref b0, .ref t0, .ref r0])), (ra, .inl (T 2, 6, .inr (.inr (.inr (.inr (fun j => some (rd j))))))), (rd i, .inr (0, [.ref q0, .int (nI (lnN k n fl))])), (q0, .inl (T 0, 440, .inl F_4)), (t0, .inr (4, [.ref tv2_1, .int (nI 0), .int ml3_2, .int (nI (lnN k n fl))])), (tv2_1, .inl (T 1, capL (lvL k0 (lnN k n fl)), .inl fb2_3))] := hD
  refine lv_goto (tgt := 29) hx hb dL_writeText_14 (by decide) ?_
  refine lv_iconst (v := (nI 0)) hx hb dL_writeText_29 (by decide +kernel) ?_
  have hP9 := hP.sub (ws' := [(lo, .inr (2, [.ref ra, .ref d0, .ref b0, .ref t0, .ref r0])), (ra, .inl (T 2, 6, .inr (.inr (.inr (.inr (fun j => some (rd j))))))), (rd i, .inr (0, [.ref q0, .int (nI (lnN k n fl))])), (q0, .inl (T 0, 440, .inl F_4)), (t0, .inr (4, [.ref tv2_1, .int (nI 0), .int ml3_2, .int (nI (lnN k n fl))])), (tv2_1, .inl (T 1, capL (lvL k0 (lnN k n fl)), .inl fb2_3)), (ou, .inl (T 3, 1, .inr (.inl (vp_updL o 0 (lN (lnN k n fl))))))]) [1, 2, 3, 4, 5, 6, 0] rfl
  have hD9 := hD.sub (ws' := [(lo, .inr (2, [.ref ra, .ref d0, .ref b0, .ref t0, .ref r0])), (ra, .inl (T 2, 6, .inr (.inr (.inr (.inr (fun j => some (rd j))))))), (rd i, .inr (0, [.ref q0, .int (nI (lnN k n fl))])), (q0, .inl (T 0, 440, .inl F_4)), (t0, .inr (4, [.ref tv2_1, .int (nI 0), .int ml3_2, .int (nI (lnN k n fl))])), (tv2_1, .inl (T 1, capL (lvL k0 (lnN k n fl)), .inl fb2_3)), (ou, .inl (T 3, 1, .inr (.inl (vp_updL o 0 (lN (lnN k n fl))))))]) [1, 2, 3, 4, 5, 6, 0] (by decide) rfl
  refine W.widen (k := 5) (n := 1106) (by omega) (by omega) ?_
  exact W.iret (v := (nI 0)) hx hb hr (fun t ht hW => ⟨⟨(tv2_1, ml3_2, fb2_3, F_4), rfl, show RB F_4 (lnN k n fl) (wrA k n b) ∧ sb_Fit fb2_3 from hp1, (by rw [ht]; exact hP9), va_K.moved hW.alike hK, hD9⟩, hS.F ht⟩) hS.2.2 dL_writeText_30
