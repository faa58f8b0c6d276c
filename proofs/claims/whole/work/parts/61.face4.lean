set_option maxHeartbeats 4000000 in
set_option maxRecDepth 100000 in
/-- look: no such row -/
theorem c_look_x1 (l : Launch) (D : va_G) (T : Nat → ClassId) (g : Nat → Nat) (sz : Nat) (hl9 : l.stackTraces = false) (lo : Nat) (ra : Nat) (d0 : Nat) (b0 : Nat) (t0 : Nat) (r0 : Nat) (rd : Nat → Nat) (i : Int32) (hi : i < 0 ∨ ¬ i < nI 6) (x0 : Int32) : TX l yX5_look wsX5_look ({ frames := 7, cells := 1, slots := 6, locals := 111 } : Room) D T g [.ref lo, .int i, .int x0] [(lo, .inr (2, [.ref ra, .ref d0, .ref b0, .ref t0, .ref r0])), (ra, .inl (T 2, 6, .inr (.inr (.inr (.inr (fun j => some (rd j)))))))] sz "java/lang/IndexOutOfBoundsException" (fun u : Unit => True) (fun u : Unit => [(lo, .inr (2, [.ref ra, .ref d0, .ref b0, .ref t0, .ref r0])), (ra, .inl (T 2, 6, .inr (.inr (.inr (.inr (fun j => some (rd j)))))))]) 1 6 := by
  refine vx_ofW (cc := cX5_look) (maxL := 4) (ret := (some .int)) (by decide) rfl ?_
  intro p e s m args below meth c s₁ B hml ht hv
  obtain ⟨rfl, hsz, hP, hK, hD0, hG⟩ := hv
  have hx := B.exec
  have hb := B.bytes
  have hr := B.returns
  have hts := atoms_spec (ws := wsX5_look) B.pre
  have hown : s.vm.findClass RX5 = some m.cls := findClass_of_methodNamed B.named
  have hlocks := B.notSynchronized
  subst hsz
  have hD := hD0.self (sz := s.heap.size)
  generalize hAe : va_A [(lo, .inr (2, [.ref ra, .ref d0, .ref b0, .ref t0, .ref r0])), (ra, .inl (T 2, 6, .inr (.inr (.inr (.inr (fun j => some (rd j)))))))] s.heap.size = A at hD hG ⊢
  have hA : ∀ q : Nat, s.heap.size ≤ q → A q := fun q h => by rw [← hAe]; exact Or.inr h
  have hS : va_S A s.heap s.heap [] := va_S.rf
  have hP : va_P D cls [(lo, .inr (2, [.ref ra, .ref d0, .ref b0, .ref t0, .ref r0])), (ra, .inl (T 2, 6, .inr (.inr (.inr (.inr (fun j => some (rd j)))))))] s.heap := hP
  have hl := lv_entry ([.ref lo, .int i, .int x0]) (n := 4) (Nat.le_of_ble_eq_true rfl)
  rw [lg_entry_eq]
  generalize (lg_sl ([.ref lo, .int i, .int x0]) ++ List.replicate (4 - (lg_sl ([.ref lo, .int i, .int x0])).length) Slot.unset).toArray = ls at hl ⊢
  have hl : lv_has ls 4 [(0, .ref lo), (1, .int i), (2, .int x0)] := hl
  refine lv_aload_n hx hb dX5_look_0 rfl (lv_at hl 0 rfl) ?_
  refine lv_iload_n hx hb dX5_look_1 rfl (lv_at hl 1 rfl) ?_
  refine tx_V (As := [.int i]) (rest := []) (wc := [(lo, .inr (2, [.ref ra, .ref d0, .ref b0, .ref t0, .ref r0])), (ra, .inl (T 2, 6, .inr (.inr (.inr (.inr (fun j => some (rd j)))))))]) (wr := []) ⟨hx, hb, hml, hown, hts⟩ (c_X5_rowAt_x l D T g s.heap.size hl9 lo ra d0 b0 t0 r0 rd i hi) (cwV 1 hts gX5_look_X5_rowAt rfl rfl rfl (by decide +kernel) ⟨Nat.le_of_ble_eq_true rfl, Nat.le_of_ble_eq_true rfl⟩) (va_recv hK hP (ci := 2) (q0 := 0) rfl rfl) hP hD hK hG hS hA [0, 1] [] rfl (by decide) rfl (by decide) (by decide) ⟨Nat.le_of_ble_eq_true rfl, Nat.le_of_ble_eq_true rfl⟩ rfl hl.1 (Nat.le_of_ble_eq_true rfl) dX5_look_2 rfl ht hlocks (fun u t hal hq1 hP hD hFF => ?_) (Nat.le_of_ble_eq_true rfl) (Nat.le_of_ble_eq_true rfl)
  have hP : va_P D cls [(lo, .inr (2, [.ref ra, .ref d0, .ref b0, .ref t0, .ref r0])), (ra, .inl (T 2, 6, .inr (.inr (.inr (.inr (fun j => some (rd j)))))))] t.heap := hP
  have hD : va_D A [(lo, .inr (2, [.ref ra, .ref d0, .ref b0, .ref t0, .ref r0])), (ra, .inl (T 2, 6, .inr (.inr (.inr (.inr (fun j => some (rd j)))))))] := hD
  exact ⟨rfl, ⟨(), trivial, hP.sub (ws' := [(lo, .inr (2, [.ref ra, .ref d0, .ref b0, .ref t0, .ref r0])), (ra, .inl (T 2, 6, .inr (.inr (.inr (.inr (fun j => some (rd j)))))))]) [0, 1] rfl, va_K.moved hal hK, hD.sub (ws' := [(lo, .inr (2, [.ref ra, .ref d0, .ref b0, .ref t0, .ref r0])), (ra, .inl (T 2, 6, .inr (.inr (.inr (.inr (fun j => some (rd j)))))))]) [0, 1] (by decide) rfl⟩, hFF⟩
set_option maxHeartbeats 4000000 in
set_option maxRecDepth 100000 in
theorem c_look_x2 (l : Launch) (D : va_G) (T : Nat → ClassId) (g : Nat → Nat) (sz : Nat) (hl9 : l.stackTraces = false) (lo : Nat) (ra : Nat) (d0 : Nat) (b0 : Nat) (t0 : Nat) (r0 : Nat) (rd : Nat → Nat) (i : Nat) (q0 : Nat) (f : Nat → Int32) (n : Nat) (hi : i < 6) (k : Int32) (hk : k < 0 ∨ ¬ k < nI 3) : TX l yX5_look wsX5_look ({ frames := 7, cells := 1, slots := 6, locals := 110 } : Room) D T g [.ref lo, .int (nI i), .int k] [(lo, .inr (2, [.ref ra, .ref d0, .ref b0, .ref t0, .ref r0])), (ra, .inl (T 2, 6, .inr (.inr (.inr (.inr (fun j => some (rd j))))))), (rd i, .inr (0, [.ref q0, .int (nI n)])), (q0, .inl (T 0, 440, .inl f))] sz "java/lang/IllegalArgumentException" (fun u : Unit => True) (fun u : Unit => [(lo, .inr (2, [.ref ra, .ref d0, .ref b0, .ref t0, .ref r0])), (ra, .inl (T 2, 6, .inr (.inr (.inr (.inr (fun j => some (rd j))))))), (rd i, .inr (0, [.ref q0, .int (nI n)])), (q0, .inl (T 0, 440, .inl f))]) 1 6 := by
  refine vx_ofW (cc := cX5_look) (maxL := 4) (ret := (some .int)) (by decide) rfl ?_
  intro p e s m args below meth c s₁ B hml ht hv
  obtain ⟨rfl, hsz, hP, hK, hD0, hG⟩ := hv
  have hx := B.exec
  have hb := B.bytes
  have hr := B.returns
  have hts := atoms_spec (ws := wsX5_look) B.pre
  have hown : s.vm.findClass RX5 = some m.cls := findClass_of_methodNamed B.named
  have hlocks := B.notSynchronized
  subst hsz
  have hD := hD0.self (sz := s.heap.size)
  generalize hAe : va_A [(lo, .inr (2, [.ref ra, .ref d0, .ref b0, .ref t0, .ref r0])), (ra, .inl (T 2, 6, .inr (.inr (.inr (.inr (fun j => some (rd j))))))), (rd i, .inr (0, [.ref q0, .int (nI n)])), (q0, .inl (T 0, 440, .inl f))] s.heap.size = A at hD hG ⊢
  have hA : ∀ q : Nat, s.heap.size ≤ q → A q := fun q h => by rw [← hAe]; exact Or.inr h
  have hS : va_S A s.heap s.heap [] := va_S.rf
  have hP : va_P D cls [(lo, .inr (2, [.ref ra, .ref d0, .ref b0, .ref t0, .ref r0])), (ra, .inl (T 2, 6, .inr (.inr (.inr (.inr (fun j => some (rd j))))))), (rd i, .inr (0, [.ref q0, .int (nI n)])), (q0, .inl (T 0, 440, .inl f))] s.heap := hP
  have hl := lv_entry ([.ref lo, .int (nI i), .int k]) (n := 4) (Nat.le_of_ble_eq_true rfl)
  rw [lg_entry_eq]
  generalize (lg_sl ([.ref lo, .int (nI i), .int k]) ++ List.replicate (4 - (lg_sl ([.ref lo, .int (nI i), .int k])).length) Slot.unset).toArray = ls at hl ⊢
  have hl : lv_has ls 4 [(0, .ref lo), (1, .int (nI i)), (2, .int k)] := hl
  refine lv_aload_n hx hb dX5_look_0 rfl (lv_at hl 0 rfl) ?_
  refine lv_iload_n hx hb dX5_look_1 rfl (lv_at hl 1 rfl) ?_
  refine ro_V (As := [.int (nI i)]) (rest := []) (wc := [(lo, .inr (2, [.ref ra, .ref d0, .ref b0, .ref t0, .ref r0])), (ra, .inl (T 2, 6, .inr (.inr (.inr (.inr (fun j => some (rd j)))))))]) (r := .ref (rd i)) ⟨hx, hb, hml, hown, hts⟩ (c_X5_rowAt l D T g lo ra d0 b0 t0 r0 rd i hi) (cwV 1 hts gX5_look_X5_rowAt rfl rfl rfl (by decide +kernel) ⟨Nat.le_of_ble_eq_true rfl, Nat.le_of_ble_eq_true rfl⟩) (va_recv hK hP (ci := 2) (q0 := 0) rfl rfl) hP hK hG hS [0, 1] rfl ⟨Nat.zero_le _, Nat.zero_le _⟩ rfl hl.1 (Nat.le_of_ble_eq_true rfl) dX5_look_2 rfl ?_
  refine lv_astore_n (lv' := [(3, .ref (rd i)), (0, .ref lo), (1, .int (nI i)), (2, .int k)]) hx hb dX5_look_5 rfl hl (by decide) rfl (fun ls hl => ?_)
  refine lv_aload_n hx hb dX5_look_6 rfl (lv_at hl 0 rfl) ?_
  refine lv_iload_n hx hb dX5_look_7 rfl (lv_at hl 3 rfl) ?_
  refine tx_S (As := [.int k]) (rest := [.ref (rd i)]) (wc := []) (wr := [(lo, .inr (2, [.ref ra, .ref d0, .ref b0, .ref t0, .ref r0])), (ra, .inl (T 2, 6, .inr (.inr (.inr (.inr (fun j => some (rd j))))))), (rd i, .inr (0, [.ref q0, .int (nI n)])), (q0, .inl (T 0, 440, .inl f))]) ⟨hx, hb, hml, hown, hts⟩ (c_X5_kindAt_x l D T g s.heap.size hl9 k hk) (va_cwS 1 hts gX5_look_X5_kindAt rfl rfl rfl (by decide +kernel) ⟨Nat.le_of_ble_eq_true rfl, Nat.le_of_ble_eq_true rfl⟩) hP hD hK hG hS hA [] [0, 1, 2, 3] rfl (by decide) rfl (by decide) (by decide) ⟨Nat.le_of_ble_eq_true rfl, Nat.le_of_ble_eq_true rfl⟩ rfl hl.1 (Nat.le_of_ble_eq_true rfl) dX5_look_8 rfl ht hlocks (fun u t hal hq1 hP hD hFF => ?_) (Nat.le_of_ble_eq_true rfl) (Nat.le_of_ble_eq_true rfl)
  have hP : va_P D cls [(lo, .inr (2, [.ref ra, .ref d0, .ref b0, .ref t0, .ref r0])), (ra, .inl (T 2, 6, .inr (.inr (.inr (.inr (fun j => some (rd j))))))), (rd i, .inr (0, [.ref q0, .int (nI n)])), (q0, .inl (T 0, 440, .inl f))] t.heap := hP
  have hD : va_D A [(lo, .inr (2, [.ref ra, .ref d0, .ref b0, .ref t0, .ref r0])), (ra, .inl (T 2, 6, .inr (.inr (.inr (.inr (fun j => some (rd j))))))), (rd i, .inr (0, [.ref q0, .int (nI n)])), (q0, .inl (T 0, 440, .inl f))] := hD
  exact ⟨rfl, ⟨(), trivial, hP.sub (ws' := [(lo, .inr (2, [.ref ra, .ref d0, .ref b0, .ref t0, .ref r0])), (ra, .inl (T 2, 6, .inr (.inr (.inr (.inr (fun j => some (rd j))))))), (rd i, .inr (0, [.ref q0, .int (nI n)])), (q0, .inl (T 0, 440, .inl f))]) [0, 1, 2, 3] rfl, va_K.moved hal hK, hD.sub (ws' := [(lo, .inr (2, [.ref ra, .ref d0, .ref b0, .ref t0, .ref r0])), (ra, .inl (T 2, 6, .inr (.inr (.inr (.inr (fun j => some (rd j))))))), (rd i, .inr (0, [.ref q0, .int (nI n)])), (q0, .inl (T 0, 440, .inl f))]) [0, 1, 2, 3] (by decide) rfl⟩, hFF⟩
set_option maxHeartbeats 4000000 in
set_option maxRecDepth 100000 in
theorem c_look (l : Launch) (D : va_G) (T : Nat → ClassId) (g : Nat → Nat) (lo : Nat) (ra : Nat) (d0 : Nat) (b0 : Nat) (t0 : Nat) (r0 : Nat) (rd : Nat → Nat) (i : Nat) (q0 : Nat) (f : Nat → Int32) (n : Nat) (b : Nat → Nat) (hb9 : RB f n b) (hi : i < 6) (k : Nat) (hk : k < 3) : RO l yX5_look wsX5_look ({ frames := 4, cells := 0, slots := 0, locals := 94 } : Room) D T g [.ref lo, .int (nI i), .int (nI k)] [(lo, .inr (2, [.ref ra, .ref d0, .ref b0, .ref t0, .ref r0])), (ra, .inl (T 2, 6, .inr (.inr (.inr (.inr (fun j => some (rd j))))))), (rd i, .inr (0, [.ref q0, .int (nI n)])), (q0, .inl (T 0, 440, .inl f))] (.int (tlI k n b)) := by
  refine Met.ofW (cc := cX5_look) (maxL := 4) (ret := (some .int)) (by decide) rfl ?_
  intro p e s m args below meth c s₁ B hml hv
  obtain ⟨rfl, hP, hK, hG⟩ := hv
  have hx := B.exec
  have hb := B.bytes
  have hr := B.returns
  have hts := atoms_spec (ws := wsX5_look) B.pre
  have hown : s.vm.findClass RX5 = some m.cls := findClass_of_methodNamed B.named
  have hlocks := B.notSynchronized
  have hS : va_S (fun _ => False) s.heap s.heap [] := va_S.rf
  have hl := lv_entry ([.ref lo, .int (nI i), .int (nI k)]) (n := 4) (Nat.le_of_ble_eq_true rfl)
  rw [lg_entry_eq]
  generalize (lg_sl ([.ref lo, .int (nI i), .int (nI k)]) ++ List.replicate (4 - (lg_sl ([.ref lo, .int (nI i), .int (nI k)])).length) Slot.unset).toArray = ls at hl ⊢
  have hl : lv_has ls 4 [(0, .ref lo), (1, .int (nI i)), (2, .int (nI k))] := hl
  refine lv_aload_n hx hb dX5_look_0 rfl (lv_at hl 0 rfl) ?_
  refine lv_iload_n hx hb dX5_look_1 rfl (lv_at hl 1 rfl) ?_
  refine ro_V (As := [.int (nI i)]) (rest := []) (wc := [(lo, .inr (2, [.ref ra, .ref d0, .ref b0, .ref t0, .ref r0])), (ra, .inl (T 2, 6, .inr (.inr (.inr (.inr (fun j => some (rd j)))))))]) (r := .ref (rd i)) ⟨hx, hb, hml, hown, hts⟩ (c_X5_rowAt l D T g lo ra d0 b0 t0 r0 rd i hi) (cwV 1 hts gX5_look_X5_rowAt rfl rfl rfl (by decide +kernel) ⟨Nat.le_of_ble_eq_true rfl, Nat.le_of_ble_eq_true rfl⟩) (va_recv hK hP (ci := 2) (q0 := 0) rfl rfl) hP hK hG hS [0, 1] rfl ⟨Nat.zero_le _, Nat.zero_le _⟩ rfl hl.1 (Nat.le_of_ble_eq_true rfl) dX5_look_2 rfl ?_
  refine lv_astore_n (lv' := [(3, .ref (rd i)), (0, .ref lo), (1, .int (nI i)), (2, .int (nI k))]) hx hb dX5_look_5 rfl hl (by decide) rfl (fun ls hl => ?_)
  refine lv_aload_n hx hb dX5_look_6 rfl (lv_at hl 0 rfl) ?_
  refine lv_iload_n hx hb dX5_look_7 rfl (lv_at hl 3 rfl) ?_
  refine ro_S (As := [.int (nI k)]) (rest := [.ref (rd i)]) (wc := []) (r := .ref (g k)) ⟨hx, hb, hml, hown, hts⟩ (c_X5_kindAt l D T g k hk) (va_cwS 1 hts gX5_look_X5_kindAt rfl rfl rfl (by decide +kernel) ⟨Nat.le_of_ble_eq_true rfl, Nat.le_of_ble_eq_true rfl⟩) hP hK hG hS [] rfl ⟨Nat.zero_le _, Nat.zero_le _⟩ rfl hl.1 (Nat.le_of_ble_eq_true rfl) dX5_look_8 rfl ?_
  refine ro_S (As := [.ref (rd i), .ref (g k)]) (rest := []) (wc := [(rd i, .inr (0, [.ref q0, .int (nI n)])), (q0, .inl (T 0, 440, .inl f))]) (r := .int (tlI k n b)) ⟨hx, hb, hml, hown, hts⟩ (c_X3_tell l D T g (rd i) q0 f n k b (hb9) hk) (va_cwS 2 hts gX5_look_X3_tell rfl rfl rfl (by decide +kernel) ⟨Nat.le_of_ble_eq_true rfl, Nat.le_of_ble_eq_true rfl⟩) hP hK hG hS [2, 3] rfl ⟨Nat.zero_le _, Nat.zero_le _⟩ rfl hl.1 (Nat.le_of_ble_eq_true rfl) dX5_look_11 rfl ?_
  exact W.iret (v := (tlI k n b)) hx hb hr (fun t ht hW => ⟨(congrArg (fun z => Outcome.returned (some (Value.int z))) (show (tlI k n b) = (tlI k n b) from rfl)), ht⟩) (fun q h => nomatch h) dX5_look_14
set_option maxHeartbeats 4000000 in
set_option maxRecDepth 100000 in
/-- letters: no such row -/
theorem c_letters_x1 (l : Launch) (D : va_G) (T : Nat → ClassId) (g : Nat → Nat) (sz : Nat) (hl9 : l.stackTraces = false) (lo : Nat) (ra : Nat) (d0 : Nat) (b0 : Nat) (t0 : Nat) (r0 : Nat) (rd : Nat → Nat) (i : Int32) (hi : i < 0 ∨ ¬ i < nI 6) (x0 : Int32) : TX l yX5_letters wsX5_letters ({ frames := 7, cells := 1, slots := 6, locals := 111 } : Room) D T g [.ref lo, .int i, .int x0] [(lo, .inr (2, [.ref ra, .ref d0, .ref b0, .ref t0, .ref r0])), (ra, .inl (T 2, 6, .inr (.inr (.inr (.inr (fun j => some (rd j)))))))] sz "java/lang/IndexOutOfBoundsException" (fun u : Unit => True) (fun u : Unit => [(lo, .inr (2, [.ref ra, .ref d0, .ref b0, .ref t0, .ref r0])), (ra, .inl (T 2, 6, .inr (.inr (.inr (.inr (fun j => some (rd j)))))))]) 1 6 := by
  refine vx_ofW (cc := cX5_letters) (maxL := 4) (ret := (some .int)) (by decide) rfl ?_
  intro p e s m args below meth c s₁ B hml ht hv
  obtain ⟨rfl, hsz, hP, hK, hD0, hG⟩ := hv
  have hx := B.exec
  have hb := B.bytes
  have hr := B.returns
  have hts := atoms_spec (ws := wsX5_letters) B.pre
  have hown : s.vm.findClass RX5 = some m.cls := findClass_of_methodNamed B.named
  have hlocks := B.notSynchronized
  subst hsz
  have hD := hD0.self (sz := s.heap.size)
  generalize hAe : va_A [(lo, .inr (2, [.ref ra, .ref d0, .ref b0, .ref t0, .ref r0])), (ra, .inl (T 2, 6, .inr (.inr (.inr (.inr (fun j => some (rd j)))))))] s.heap.size = A at hD hG ⊢
  have hA : ∀ q : Nat, s.heap.size ≤ q → A q := fun q h => by rw [← hAe]; exact Or.inr h
  have hS : va_S A s.heap s.heap [] := va_S.rf
  have hP : va_P D cls [(lo, .inr (2, [.ref ra, .ref d0, .ref b0, .ref t0, .ref r0])), (ra, .inl (T 2, 6, .inr (.inr (.inr (.inr (fun j => some (rd j)))))))] s.heap := hP
  have hl := lv_entry ([.ref lo, .int i, .int x0]) (n := 4) (Nat.le_of_ble_eq_true rfl)
  rw [lg_entry_eq]
  generalize (lg_sl ([.ref lo, .int i, .int x0]) ++ List.replicate (4 - (lg_sl ([.ref lo, .int i, .int x0])).length) Slot.unset).toArray = ls at hl ⊢
  have hl : lv_has ls 4 [(0, .ref lo), (1, .int i), (2, .int x0)] := hl
  refine lv_aload_n hx hb dX5_letters_0 rfl (lv_at hl 0 rfl) ?_
  refine lv_iload_n hx hb dX5_letters_1 rfl (lv_at hl 1 rfl) ?_
  refine tx_V (As := [.int i]) (rest := []) (wc := [(lo, .inr (2, [.ref ra, .ref d0, .ref b0, .ref t0, .ref r0])), (ra, .inl (T 2, 6, .inr (.inr (.inr (.inr (fun j => some (rd j)))))))]) (wr := []) ⟨hx, hb, hml, hown, hts⟩ (c_X5_rowAt_x l D T g s.heap.size hl9 lo ra d0 b0 t0 r0 rd i hi) (cwV 1 hts gX5_letters_X5_rowAt rfl rfl rfl (by decide +kernel) ⟨Nat.le_of_ble_eq_true rfl, Nat.le_of_ble_eq_true rfl⟩) (va_recv hK hP (ci := 2) (q0 := 0) rfl rfl) hP hD hK hG hS hA [0, 1] [] rfl (by decide) rfl (by decide) (by decide) ⟨Nat.le_of_ble_eq_true rfl, Nat.le_of_ble_eq_true rfl⟩ rfl hl.1 (Nat.le_of_ble_eq_true rfl) dX5_letters_2 rfl ht hlocks (fun u t hal hq1 hP hD hFF => ?_) (Nat.le_of_ble_eq_true rfl) (Nat.le_of_ble_eq_true rfl)
  have hP : va_P D cls [(lo, .inr (2, [.ref ra, .ref d0, .ref b0, .ref t0, .ref r0])), (ra, .inl (T 2, 6, .inr (.inr (.inr (.inr (fun j => some (rd j)))))))] t.heap := hP
  have hD : va_D A [(lo, .inr (2, [.ref ra, .ref d0, .ref b0, .ref t0, .ref r0])), (ra, .inl (T 2, 6, .inr (.inr (.inr (.inr (fun j => some (rd j)))))))] := hD
  exact ⟨rfl, ⟨(), trivial, hP.sub (ws' := [(lo, .inr (2, [.ref ra, .ref d0, .ref b0, .ref t0, .ref r0])), (ra, .inl (T 2, 6, .inr (.inr (.inr (.inr (fun j => some (rd j)))))))]) [0, 1] rfl, va_K.moved hal hK, hD.sub (ws' := [(lo, .inr (2, [.ref ra, .ref d0, .ref b0, .ref t0, .ref r0])), (ra, .inl (T 2, 6, .inr (.inr (.inr (.inr (fun j => some (rd j)))))))]) [0, 1] (by decide) rfl⟩, hFF⟩
set_option maxHeartbeats 4000000 in
set_option maxRecDepth 100000 in
theorem c_letters_x2 (l : Launch) (D : va_G) (T : Nat → ClassId) (g : Nat → Nat) (sz : Nat) (hl9 : l.stackTraces = false) (lo : Nat) (ra : Nat) (d0 : Nat) (b0 : Nat) (t0 : Nat) (r0 : Nat) (rd : Nat → Nat) (i : Nat) (q0 : Nat) (f : Nat → Int32) (n : Nat) (hi : i < 6) (k : Int32) (hk : k < 0 ∨ ¬ k < nI 3) : TX l yX5_letters wsX5_letters ({ frames := 7, cells := 1, slots := 6, locals := 110 } : Room) D T g [.ref lo, .int (nI i), .int k] [(lo, .inr (2, [.ref ra, .ref d0, .ref b0, .ref t0, .ref r0])), (ra, .inl (T 2, 6, .inr (.inr (.inr (.inr (fun j => some (rd j))))))), (rd i, .inr (0, [.ref q0, .int (nI n)])), (q0, .inl (T 0, 440, .inl f))] sz "java/lang/IllegalArgumentException" (fun u : Unit => True) (fun u : Unit => [(lo, .inr (2, [.ref ra, .ref d0, .ref b0, .ref t0, .ref r0])), (ra, .inl (T 2, 6, .inr (.inr (.inr (.inr (fun j => some (rd j))))))), (rd i, .inr (0, [.ref q0, .int (nI n)])), (q0, .inl (T 0, 440, .inl f))]) 1 6 := by
  refine vx_ofW (cc := cX5_letters) (maxL := 4) (ret := (some .int)) (by decide) rfl ?_
  intro p e s m args below meth c s₁ B hml ht hv
  obtain ⟨rfl, hsz, hP, hK, hD0, hG⟩ := hv
  have hx := B.exec
  have hb := B.bytes
  have hr := B.returns
  have hts := atoms_spec (ws := wsX5_letters) B.pre
  have hown : s.vm.findClass RX5 = some m.cls := findClass_of_methodNamed B.named
  have hlocks := B.notSynchronized
  subst hsz
  have hD := hD0.self (sz := s.heap.size)
  generalize hAe : va_A [(lo, .inr (2, [.ref ra, .ref d0, .ref b0, .ref t0, .ref r0])), (ra, .inl (T 2, 6, .inr (.inr (.inr (.inr (fun j => some (rd j))))))), (rd i, .inr (0, [.ref q0, .int (nI n)])), (q0, .inl (T 0, 440, .inl f))] s.heap.size = A at hD hG ⊢
  have hA : ∀ q : Nat, s.heap.size ≤ q → A q := fun q h => by rw [← hAe]; exact Or.inr h
  have hS : va_S A s.heap s.heap [] := va_S.rf
  have hP : va_P D cls [(lo, .inr (2, [.ref ra, .ref d0, .ref b0, .ref t0, .ref r0])), (ra, .inl (T 2, 6, .inr (.inr (.inr (.inr (fun j => some (rd j))))))), (rd i, .inr (0, [.ref q0, .int (nI n)])), (q0, .inl (T 0, 440, .inl f))] s.heap := hP
  have hl := lv_entry ([.ref lo, .int (nI i), .int k]) (n := 4) (Nat.le_of_ble_eq_true rfl)
  rw [lg_entry_eq]
  generalize (lg_sl ([.ref lo, .int (nI i), .int k]) ++ List.replicate (4 - (lg_sl ([.ref lo, .int (nI i), .int k])).length) Slot.unset).toArray = ls at hl ⊢
  have hl : lv_has ls 4 [(0, .ref lo), (1, .int (nI i)), (2, .int k)] := hl
  refine lv_aload_n hx hb dX5_letters_0 rfl (lv_at hl 0 rfl) ?_
  refine lv_iload_n hx hb dX5_letters_1 rfl (lv_at hl 1 rfl) ?_
  refine ro_V (As := [.int (nI i)]) (rest := []) (wc := [(lo, .inr (2, [.ref ra, .ref d0, .ref b0, .ref t0, .ref r0])), (ra, .inl (T 2, 6, .inr (.inr (.inr (.inr (fun j => some (rd j)))))))]) (r := .ref (rd i)) ⟨hx, hb, hml, hown, hts⟩ (c_X5_rowAt l D T g lo ra d0 b0 t0 r0 rd i hi) (cwV 1 hts gX5_letters_X5_rowAt rfl rfl rfl (by decide +kernel) ⟨Nat.le_of_ble_eq_true rfl, Nat.le_of_ble_eq_true rfl⟩) (va_recv hK hP (ci := 2) (q0 := 0) rfl rfl) hP hK hG hS [0, 1] rfl ⟨Nat.zero_le _, Nat.zero_le _⟩ rfl hl.1 (Nat.le_of_ble_eq_true rfl) dX5_letters_2 rfl ?_
  refine lv_astore_n (lv' := [(3, .ref (rd i)), (0, .ref lo), (1, .int (nI i)), (2, .int k)]) hx hb dX5_letters_5 rfl hl (by decide) rfl (fun ls hl => ?_)
  refine lv_aload_n hx hb dX5_letters_6 rfl (lv_at hl 0 rfl) ?_
  refine lv_iload_n hx hb dX5_letters_7 rfl (lv_at hl 3 rfl) ?_
  refine tx_S (As := [.int k]) (rest := [.ref (rd i)]) (wc := []) (wr := [(lo, .inr (2, [.ref ra, .ref d0, .ref b0, .ref t0, .ref r0])), (ra, .inl (T 2, 6, .inr (.inr (.inr (.inr (fun j => some (rd j))))))), (rd i, .inr (0, [.ref q0, .int (nI n)])), (q0, .inl (T 0, 440, .inl f))]) ⟨hx, hb, hml, hown, hts⟩ (c_X5_kindAt_x l D T g s.heap.size hl9 k hk) (va_cwS 1 hts gX5_letters_X5_kindAt rfl rfl rfl (by decide +kernel) ⟨Nat.le_of_ble_eq_true rfl, Nat.le_of_ble_eq_true rfl⟩) hP hD hK hG hS hA [] [0, 1, 2, 3] rfl (by decide) rfl (by decide) (by decide) ⟨Nat.le_of_ble_eq_true rfl, Nat.le_of_ble_eq_true rfl⟩ rfl hl.1 (Nat.le_of_ble_eq_true rfl) dX5_letters_8 rfl ht hlocks (fun u t hal hq1 hP hD hFF => ?_) (Nat.le_of_ble_eq_true rfl) (Nat.le_of_ble_eq_true rfl)
  have hP : va_P D cls [(lo, .inr (2, [.ref ra, .ref d0, .ref b0, .ref t0, .ref r0])), (ra, .inl (T 2, 6, .inr (.inr (.inr (.inr (fun j => some (rd j))))))), (rd i, .inr (0, [.ref q0, .int (nI n)])), (q0, .inl (T 0, 440, .inl f))] t.heap := hP
  have hD : va_D A [(lo, .inr (2, [.ref ra, .ref d0, .ref b0, .ref t0, .ref r0])), (ra, .inl (T 2, 6, .inr (.inr (.inr (.inr (fun j => some (rd j))))))), (rd i, .inr (0, [.ref q0, .int (nI n)])), (q0, .inl (T 0, 440, .inl f))] := hD
  exact ⟨rfl, ⟨(), trivial, hP.sub (ws' := [(lo, .inr (2, [.ref ra, .ref d0, .ref b0, .ref t0, .ref r0])), (ra, .inl (T 2, 6, .inr (.inr (.inr (.inr (fun j => some (rd j))))))), (rd i, .inr (0, [.ref q0, .int (nI n)])), (q0, .inl (T 0, 440, .inl f))]) [0, 1, 2, 3] rfl, va_K.moved hal hK, hD.sub (ws' := [(lo, .inr (2, [.ref ra, .ref d0, .ref b0, .ref t0, .ref r0])), (ra, .inl (T 2, 6, .inr (.inr (.inr (.inr (fun j => some (rd j))))))), (rd i, .inr (0, [.ref q0, .int (nI n)])), (q0, .inl (T 0, 440, .inl f))]) [0, 1, 2, 3] (by decide) rfl⟩, hFF⟩
set_option maxHeartbeats 4000000 in
set_option maxRecDepth 100000 in
theorem c_letters (l : Launch) (D : va_G) (T : Nat → ClassId) (g : Nat → Nat) (lo : Nat) (ra : Nat) (d0 : Nat) (b0 : Nat) (t0 : Nat) (r0 : Nat) (rd : Nat → Nat) (i : Nat) (q0 : Nat) (f : Nat → Int32) (n : Nat) (b : Nat → Nat) (hb9 : RB f n b) (hi : i < 6) (k : Nat) (hk : k < 3) : RO l yX5_letters wsX5_letters ({ frames := 3, cells := 0, slots := 0, locals := 66 } : Room) D T g [.ref lo, .int (nI i), .int (nI k)] [(lo, .inr (2, [.ref ra, .ref d0, .ref b0, .ref t0, .ref r0])), (ra, .inl (T 2, 6, .inr (.inr (.inr (.inr (fun j => some (rd j))))))), (rd i, .inr (0, [.ref q0, .int (nI n)])), (q0, .inl (T 0, 440, .inl f))] (.int (nI (ctN (ltB k b) n))) := by
  refine Met.ofW (cc := cX5_letters) (maxL := 4) (ret := (some .int)) (by decide) rfl ?_
  intro p e s m args below meth c s₁ B hml hv
  obtain ⟨rfl, hP, hK, hG⟩ := hv
  have hx := B.exec
  have hb := B.bytes
  have hr := B.returns
  have hts := atoms_spec (ws := wsX5_letters) B.pre
  have hown : s.vm.findClass RX5 = some m.cls := findClass_of_methodNamed B.named
  have hlocks := B.notSynchronized
  have hi_X2 : ∀ w ∈ wsX20, w ∈ wsX5_letters := by decide +kernel
  have hS : va_S (fun _ => False) s.heap s.heap [] := va_S.rf
  have hl := lv_entry ([.ref lo, .int (nI i), .int (nI k)]) (n := 4) (Nat.le_of_ble_eq_true rfl)
  rw [lg_entry_eq]
  generalize (lg_sl ([.ref lo, .int (nI i), .int (nI k)]) ++ List.replicate (4 - (lg_sl ([.ref lo, .int (nI i), .int (nI k)])).length) Slot.unset).toArray = ls at hl ⊢
  have hl : lv_has ls 4 [(0, .ref lo), (1, .int (nI i)), (2, .int (nI k))] := hl
  refine lv_aload_n hx hb dX5_letters_0 rfl (lv_at hl 0 rfl) ?_
  refine lv_iload_n hx hb dX5_letters_1 rfl (lv_at hl 1 rfl) ?_
  refine ro_V (As := [.int (nI i)]) (rest := []) (wc := [(lo, .inr (2, [.ref ra, .ref d0, .ref b0, .ref t0, .ref r0])), (ra, .inl (T 2, 6, .inr (.inr (.inr (.inr (fun j => some (rd j)))))))]) (r := .ref (rd i)) ⟨hx, hb, hml, hown, hts⟩ (c_X5_rowAt l D T g lo ra d0 b0 t0 r0 rd i hi) (cwV 1 hts gX5_letters_X5_rowAt rfl rfl rfl (by decide +kernel) ⟨Nat.le_of_ble_eq_true rfl, Nat.le_of_ble_eq_true rfl⟩) (va_recv hK hP (ci := 2) (q0 := 0) rfl rfl) hP hK hG hS [0, 1] rfl ⟨Nat.zero_le _, Nat.zero_le _⟩ rfl hl.1 (Nat.le_of_ble_eq_true rfl) dX5_letters_2 rfl ?_
  refine lv_astore_n (lv' := [(3, .ref (rd i)), (0, .ref lo), (1, .int (nI i)), (2, .int (nI k))]) hx hb dX5_letters_5 rfl hl (by decide) rfl (fun ls hl => ?_)
  refine lv_aload_n hx hb dX5_letters_6 rfl (lv_at hl 0 rfl) ?_
  refine lv_iload_n hx hb dX5_letters_7 rfl (lv_at hl 3 rfl) ?_
  refine ro_S (As := [.int (nI k)]) (rest := [.ref (rd i)]) (wc := []) (r := .ref (g k)) ⟨hx, hb, hml, hown, hts⟩ (c_X5_kindAt l D T g k hk) (va_cwS 1 hts gX5_letters_X5_kindAt rfl rfl rfl (by decide +kernel) ⟨Nat.le_of_ble_eq_true rfl, Nat.le_of_ble_eq_true rfl⟩) hP hK hG hS [] rfl ⟨Nat.zero_le _, Nat.zero_le _⟩ rfl hl.1 (Nat.le_of_ble_eq_true rfl) dX5_letters_8 rfl ?_
  refine lv_aload_n hx hb dX5_letters_11 rfl (lv_at hl 0 rfl) ?_
  refine va_getN (D := D) (ci := 0) (v := .int (nI n)) (C := RX2) (T := TX2) (N := 2) hx hb hts hi_X2 hown hK hP 2 rfl rfl 1 (by decide) (nx0 hG) (fun _ h9 => h9) rfl dX5_letters_12 ?_
  refine ro_V (As := [.ref (g k), .int (nI n)]) (rest := []) (wc := [(rd i, .inr (0, [.ref q0, .int (nI n)])), (q0, .inl (T 0, 440, .inl f))]) (r := .int (nI (ctN (ltB k b) n))) ⟨hx, hb, hml, hown, hts⟩ (c_X2_countLetters l D T g (rd i) q0 f n k n b (hb9) hk (Nat.le_refl _)) (cwV 2 hts gX5_letters_X2_countLetters rfl rfl rfl (by decide +kernel) ⟨Nat.le_of_ble_eq_true rfl, Nat.le_of_ble_eq_true rfl⟩) (va_recv hK hP (ci := 0) (q0 := 2) rfl rfl) hP hK hG hS [2, 3] rfl ⟨Nat.zero_le _, Nat.zero_le _⟩ rfl hl.1 (Nat.le_of_ble_eq_true rfl) dX5_letters_15 rfl ?_
  exact W.iret (v := (nI (ctN (ltB k b) n))) hx hb hr (fun t ht hW => ⟨(congrArg (fun z => Outcome.returned (some (Value.int z))) (show (nI (ctN (ltB k b) n)) = (nI (ctN (ltB k b) n)) from rfl)), ht⟩) (fun q h => nomatch h) dX5_letters_18
set_option maxHeartbeats 4000000 in
set_option maxRecDepth 100000 in
/-- isWritten: no such row -/
theorem c_isWritten_x1 (l : Launch) (D : va_G) (T : Nat → ClassId) (g : Nat → Nat) (sz : Nat) (hl9 : l.stackTraces = false) (lo : Nat) (ra : Nat) (d0 : Nat) (b0 : Nat) (t0 : Nat) (r0 : Nat) (rd : Nat → Nat) (i : Int32) (hi : i < 0 ∨ ¬ i < nI 6) (x0 : Int32) : TX l yX5_isWritten wsX5_isWritten ({ frames := 7, cells := 1, slots := 6, locals := 111 } : Room) D T g [.ref lo, .int i, .int x0] [(lo, .inr (2, [.ref ra, .ref d0, .ref b0, .ref t0, .ref r0])), (ra, .inl (T 2, 6, .inr (.inr (.inr (.inr (fun j => some (rd j)))))))] sz "java/lang/IndexOutOfBoundsException" (fun u : Unit => True) (fun u : Unit => [(lo, .inr (2, [.ref ra, .ref d0, .ref b0, .ref t0, .ref r0])), (ra, .inl (T 2, 6, .inr (.inr (.inr (.inr (fun j => some (rd j)))))))]) 1 6 := by
  refine vx_ofW (cc := cX5_isWritten) (maxL := 5) (ret := (some .boolean)) (by decide) rfl ?_
  intro p e s m args below meth c s₁ B hml ht hv
  obtain ⟨rfl, hsz, hP, hK, hD0, hG⟩ := hv
  have hx := B.exec
  have hb := B.bytes
  have hr := B.returns
  have hts := atoms_spec (ws := wsX5_isWritten) B.pre
  have hown : s.vm.findClass RX5 = some m.cls := findClass_of_methodNamed B.named
  have hlocks := B.notSynchronized
  subst hsz
  have hD := hD0.self (sz := s.heap.size)
  generalize hAe : va_A [(lo, .inr (2, [.ref ra, .ref d0, .ref b0, .ref t0, .ref r0])), (ra, .inl (T 2, 6, .inr (.inr (.inr (.inr (fun j => some (rd j)))))))] s.heap.size = A at hD hG ⊢
  have hA : ∀ q : Nat, s.heap.size ≤ q → A q := fun q h => by rw [← hAe]; exact Or.inr h
  have hS : va_S A s.heap s.heap [] := va_S.rf
  have hP : va_P D cls [(lo, .inr (2, [.ref ra, .ref d0, .ref b0, .ref t0, .ref r0])), (ra, .inl (T 2, 6, .inr (.inr (.inr (.inr (fun j => some (rd j)))))))] s.heap := hP
  have hl := lv_entry ([.ref lo, .int i, .int x0]) (n := 5) (Nat.le_of_ble_eq_true rfl)
  rw [lg_entry_eq]
  generalize (lg_sl ([.ref lo, .int i, .int x0]) ++ List.replicate (5 - (lg_sl ([.ref lo, .int i, .int x0])).length) Slot.unset).toArray = ls at hl ⊢
  have hl : lv_has ls 5 [(0, .ref lo), (1, .int i), (2, .int x0)] := hl
  refine lv_aload_n hx hb dX5_isWritten_0 rfl (lv_at hl 0 rfl) ?_
  refine lv_iload_n hx hb dX5_isWritten_1 rfl (lv_at hl 1 rfl) ?_
  refine tx_V (As := [.int i]) (rest := []) (wc := [(lo, .inr (2, [.ref ra, .ref d0, .ref b0, .ref t0, .ref r0])), (ra, .inl (T 2, 6, .inr (.inr (.inr (.inr (fun j => some (rd j)))))))]) (wr := []) ⟨hx, hb, hml, hown, hts⟩ (c_X5_rowAt_x l D T g s.heap.size hl9 lo ra d0 b0 t0 r0 rd i hi) (cwV 1 hts gX5_isWritten_X5_rowAt rfl rfl rfl (by decide +kernel) ⟨Nat.le_of_ble_eq_true rfl, Nat.le_of_ble_eq_true rfl⟩) (va_recv hK hP (ci := 2) (q0 := 0) rfl rfl) hP hD hK hG hS hA [0, 1] [] rfl (by decide) rfl (by decide) (by decide) ⟨Nat.le_of_ble_eq_true rfl, Nat.le_of_ble_eq_true rfl⟩ rfl hl.1 (Nat.le_of_ble_eq_true rfl) dX5_isWritten_2 rfl ht hlocks (fun u t hal hq1 hP hD hFF => ?_) (Nat.le_of_ble_eq_true rfl) (Nat.le_of_ble_eq_true rfl)
  have hP : va_P D cls [(lo, .inr (2, [.ref ra, .ref d0, .ref b0, .ref t0, .ref r0])), (ra, .inl (T 2, 6, .inr (.inr (.inr (.inr (fun j => some (rd j)))))))] t.heap := hP
  have hD : va_D A [(lo, .inr (2, [.ref ra, .ref d0, .ref b0, .ref t0, .ref r0])), (ra, .inl (T 2, 6, .inr (.inr (.inr (.inr (fun j => some (rd j)))))))] := hD
  exact ⟨rfl, ⟨(), trivial, hP.sub (ws' := [(lo, .inr (2, [.ref ra, .ref d0, .ref b0, .ref t0, .ref r0])), (ra, .inl (T 2, 6, .inr (.inr (.inr (.inr (fun j => some (rd j)))))))]) [0, 1] rfl, va_K.moved hal hK, hD.sub (ws' := [(lo, .inr (2, [.ref ra, .ref d0, .ref b0, .ref t0, .ref r0])), (ra, .inl (T 2, 6, .inr (.inr (.inr (.inr (fun j => some (rd j)))))))]) [0, 1] (by decide) rfl⟩, hFF⟩
set_option maxHeartbeats 4000000 in
set_option maxRecDepth 100000 in
theorem c_isWritten_x2 (l : Launch) (D : va_G) (T : Nat → ClassId) (g : Nat → Nat) (sz : Nat) (hl9 : l.stackTraces = false) (lo : Nat) (ra : Nat) (d0 : Nat) (b0 : Nat) (t0 : Nat) (r0 : Nat) (rd : Nat → Nat) (i : Nat) (q0 : Nat) (f : Nat → Int32) (n : Nat) (hi : i < 6) (k : Int32) (hk : k < 0 ∨ ¬ k < nI 3) : TX l yX5_isWritten wsX5_isWritten ({ frames := 7, cells := 1, slots := 6, locals := 110 } : Room) D T g [.ref lo, .int (nI i), .int k] [(lo, .inr (2, [.ref ra, .ref d0, .ref b0, .ref t0, .ref r0])), (ra, .inl (T 2, 6, .inr (.inr (.inr (.inr (fun j => some (rd j))))))), (rd i, .inr (0, [.ref q0, .int (nI n)])), (q0, .inl (T 0, 440, .inl f))] sz "java/lang/IllegalArgumentException" (fun u : Unit => True) (fun u : Unit => [(lo, .inr (2, [.ref ra, .ref d0, .ref b0, .ref t0, .ref r0])), (ra, .inl (T 2, 6, .inr (.inr (.inr (.inr (fun j => some (rd j))))))), (rd i, .inr (0, [.ref q0, .int (nI n)])), (q0, .inl (T 0, 440, .inl f))]) 1 6 := by
  refine vx_ofW (cc := cX5_isWritten) (maxL := 5) (ret := (some .boolean)) (by decide) rfl ?_
  intro p e s m args below meth c s₁ B hml ht hv
  obtain ⟨rfl, hsz, hP, hK, hD0, hG⟩ := hv
  have hx := B.exec
  have hb := B.bytes
  have hr := B.returns
  have hts := atoms_spec (ws := wsX5_isWritten) B.pre
  have hown : s.vm.findClass RX5 = some m.cls := findClass_of_methodNamed B.named
  have hlocks := B.notSynchronized
  subst hsz
  have hD := hD0.self (sz := s.heap.size)
  generalize hAe : va_A [(lo, .inr (2, [.ref ra, .ref d0, .ref b0, .ref t0, .ref r0])), (ra, .inl (T 2, 6, .inr (.inr (.inr (.inr (fun j => some (rd j))))))), (rd i, .inr (0, [.ref q0, .int (nI n)])), (q0, .inl (T 0, 440, .inl f))] s.heap.size = A at hD hG ⊢
  have hA : ∀ q : Nat, s.heap.size ≤ q → A q := fun q h => by rw [← hAe]; exact Or.inr h
  have hS : va_S A s.heap s.heap [] := va_S.rf
  have hP : va_P D cls [(lo, .inr (2, [.ref ra, .ref d0, .ref b0, .ref t0, .ref r0])), (ra, .inl (T 2, 6, .inr (.inr (.inr (.inr (fun j => some (rd j))))))), (rd i, .inr (0, [.ref q0, .int (nI n)])), (q0, .inl (T 0, 440, .inl f))] s.heap := hP
  have hl := lv_entry ([.ref lo, .int (nI i), .int k]) (n := 5) (Nat.le_of_ble_eq_true rfl)
  rw [lg_entry_eq]
  generalize (lg_sl ([.ref lo, .int (nI i), .int k]) ++ List.replicate (5 - (lg_sl ([.ref lo, .int (nI i), .int k])).length) Slot.unset).toArray = ls at hl ⊢
  have hl : lv_has ls 5 [(0, .ref lo), (1, .int (nI i)), (2, .int k)] := hl
  refine lv_aload_n hx hb dX5_isWritten_0 rfl (lv_at hl 0 rfl) ?_
  refine lv_iload_n hx hb dX5_isWritten_1 rfl (lv_at hl 1 rfl) ?_
  refine ro_V (As := [.int (nI i)]) (rest := []) (wc := [(lo, .inr (2, [.ref ra, .ref d0, .ref b0, .ref t0, .ref r0])), (ra, .inl (T 2, 6, .inr (.inr (.inr (.inr (fun j => some (rd j)))))))]) (r := .ref (rd i)) ⟨hx, hb, hml, hown, hts⟩ (c_X5_rowAt l D T g lo ra d0 b0 t0 r0 rd i hi) (cwV 1 hts gX5_isWritten_X5_rowAt rfl rfl rfl (by decide +kernel) ⟨Nat.le_of_ble_eq_true rfl, Nat.le_of_ble_eq_true rfl⟩) (va_recv hK hP (ci := 2) (q0 := 0) rfl rfl) hP hK hG hS [0, 1] rfl ⟨Nat.zero_le _, Nat.zero_le _⟩ rfl hl.1 (Nat.le_of_ble_eq_true rfl) dX5_isWritten_2 rfl ?_
  refine lv_astore_n (lv' := [(3, .ref (rd i)), (0, .ref lo), (1, .int (nI i)), (2, .int k)]) hx hb dX5_isWritten_5 rfl hl (by decide) rfl (fun ls hl => ?_)
  refine lv_iload_n hx hb dX5_isWritten_6 rfl (lv_at hl 3 rfl) ?_
  refine tx_S (As := [.int k]) (rest := []) (wc := []) (wr := [(lo, .inr (2, [.ref ra, .ref d0, .ref b0, .ref t0, .ref r0])), (ra, .inl (T 2, 6, .inr (.inr (.inr (.inr (fun j => some (rd j))))))), (rd i, .inr (0, [.ref q0, .int (nI n)])), (q0, .inl (T 0, 440, .inl f))]) ⟨hx, hb, hml, hown, hts⟩ (c_X5_kindAt_x l D T g s.heap.size hl9 k hk) (va_cwS 1 hts gX5_isWritten_X5_kindAt rfl rfl rfl (by decide +kernel) ⟨Nat.le_of_ble_eq_true rfl, Nat.le_of_ble_eq_true rfl⟩) hP hD hK hG hS hA [] [0, 1, 2, 3] rfl (by decide) rfl (by decide) (by decide) ⟨Nat.le_of_ble_eq_true rfl, Nat.le_of_ble_eq_true rfl⟩ rfl hl.1 (Nat.le_of_ble_eq_true rfl) dX5_isWritten_7 rfl ht hlocks (fun u t hal hq1 hP hD hFF => ?_) (Nat.le_of_ble_eq_true rfl) (Nat.le_of_ble_eq_true rfl)
  have hP : va_P D cls [(lo, .inr (2, [.ref ra, .ref d0, .ref b0, .ref t0, .ref r0])), (ra, .inl (T 2, 6, .inr (.inr (.inr (.inr (fun j => some (rd j))))))), (rd i, .inr (0, [.ref q0, .int (nI n)])), (q0, .inl (T 0, 440, .inl f))] t.heap := hP
  have hD : va_D A [(lo, .inr (2, [.ref ra, .ref d0, .ref b0, .ref t0, .ref r0])), (ra, .inl (T 2, 6, .inr (.inr (.inr (.inr (fun j => some (rd j))))))), (rd i, .inr (0, [.ref q0, .int (nI n)])), (q0, .inl (T 0, 440, .inl f))] := hD
  exact ⟨rfl, ⟨(), trivial, hP.sub (ws' := [(lo, .inr (2, [.ref ra, .ref d0, .ref b0, .ref t0, .ref r0])), (ra, .inl (T 2, 6, .inr (.inr (.inr (.inr (fun j => some (rd j))))))), (rd i, .inr (0, [.ref q0, .int (nI n)])), (q0, .inl (T 0, 440, .inl f))]) [0, 1, 2, 3] rfl, va_K.moved hal hK, hD.sub (ws' := [(lo, .inr (2, [.ref ra, .ref d0, .ref b0, .ref t0, .ref r0])), (ra, .inl (T 2, 6, .inr (.inr (.inr (.inr (fun j => some (rd j))))))), (rd i, .inr (0, [.ref q0, .int (nI n)])), (q0, .inl (T 0, 440, .inl f))]) [0, 1, 2, 3] (by decide) rfl⟩, hFF⟩
set_option maxHeartbeats 4000000 in
set_option maxRecDepth 100000 in
theorem c_isWritten_n (l : Launch) (D : va_G) (T : Nat → ClassId) (g : Nat → Nat) (lo : Nat) (ra : Nat) (d0 : Nat) (b0 : Nat) (t0 : Nat) (r0 : Nat) (rd : Nat → Nat) (i : Nat) (q0 : Nat) (f : Nat → Int32) (n : Nat) (b : Nat → Nat) (hb9 : RB f n b) (hi : i < 6) (k : Nat) (hk : k < 3) (hwu : wroB k n b = true ∨ untB k n b = true) : RO l yX5_isWritten wsX5_isWritten ({ frames := 4, cells := 0, slots := 0, locals := 94 } : Room) D T g [.ref lo, .int (nI i), .int (nI k)] [(lo, .inr (2, [.ref ra, .ref d0, .ref b0, .ref t0, .ref r0])), (ra, .inl (T 2, 6, .inr (.inr (.inr (.inr (fun j => some (rd j))))))), (rd i, .inr (0, [.ref q0, .int (nI n)])), (q0, .inl (T 0, 440, .inl f))] (.int (nI 0)) := by
  refine Met.ofW (cc := cX5_isWritten) (maxL := 5) (ret := (some .boolean)) (by decide) rfl ?_
  intro p e s m args below meth c s₁ B hml hv
  obtain ⟨rfl, hP, hK, hG⟩ := hv
  have hx := B.exec
  have hb := B.bytes
  have hr := B.returns
  have hts := atoms_spec (ws := wsX5_isWritten) B.pre
  have hown : s.vm.findClass RX5 = some m.cls := findClass_of_methodNamed B.named
  have hlocks := B.notSynchronized
  have hS : va_S (fun _ => False) s.heap s.heap [] := va_S.rf
  have hl := lv_entry ([.ref lo, .int (nI i), .int (nI k)]) (n := 5) (Nat.le_of_ble_eq_true rfl)
  rw [lg_entry_eq]
  generalize (lg_sl ([.ref lo, .int (nI i), .int (nI k)]) ++ List.replicate (5 - (lg_sl ([.ref lo, .int (nI i), .int (nI k)])).length) Slot.unset).toArray = ls at hl ⊢
  have hl : lv_has ls 5 [(0, .ref lo), (1, .int (nI i)), (2, .int (nI k))] := hl
  have hneg : tlI k n b < 0 := by
    cases hw : wroB k n b with
    | true => rw [tl_wrong hw]; decide
    | false => rcases hwu with z | z; rw [hw] at z; cases z; rw [tl_unt hw z]; decide
  refine lv_aload_n hx hb dX5_isWritten_0 rfl (lv_at hl 0 rfl) ?_
  refine lv_iload_n hx hb dX5_isWritten_1 rfl (lv_at hl 1 rfl) ?_
  refine ro_V (As := [.int (nI i)]) (rest := []) (wc := [(lo, .inr (2, [.ref ra, .ref d0, .ref b0, .ref t0, .ref r0])), (ra, .inl (T 2, 6, .inr (.inr (.inr (.inr (fun j => some (rd j)))))))]) (r := .ref (rd i)) ⟨hx, hb, hml, hown, hts⟩ (c_X5_rowAt l D T g lo ra d0 b0 t0 r0 rd i hi) (cwV 1 hts gX5_isWritten_X5_rowAt rfl rfl rfl (by decide +kernel) ⟨Nat.le_of_ble_eq_true rfl, Nat.le_of_ble_eq_true rfl⟩) (va_recv hK hP (ci := 2) (q0 := 0) rfl rfl) hP hK hG hS [0, 1] rfl ⟨Nat.zero_le _, Nat.zero_le _⟩ rfl hl.1 (Nat.le_of_ble_eq_true rfl) dX5_isWritten_2 rfl ?_
  refine lv_astore_n (lv' := [(3, .ref (rd i)), (0, .ref lo), (1, .int (nI i)), (2, .int (nI k))]) hx hb dX5_isWritten_5 rfl hl (by decide) rfl (fun ls hl => ?_)
  refine lv_iload_n hx hb dX5_isWritten_6 rfl (lv_at hl 3 rfl) ?_
  refine ro_S (As := [.int (nI k)]) (rest := []) (wc := []) (r := .ref (g k)) ⟨hx, hb, hml, hown, hts⟩ (c_X5_kindAt l D T g k hk) (va_cwS 1 hts gX5_isWritten_X5_kindAt rfl rfl rfl (by decide +kernel) ⟨Nat.le_of_ble_eq_true rfl, Nat.le_of_ble_eq_true rfl⟩) hP hK hG hS [] rfl ⟨Nat.zero_le _, Nat.zero_le _⟩ rfl hl.1 (Nat.le_of_ble_eq_true rfl) dX5_isWritten_7 rfl ?_
  refine lv_astore (lv' := [(4, .ref (g k)), (3, .ref (rd i)), (0, .ref lo), (1, .int (nI i)), (2, .int (nI k))]) hx hb dX5_isWritten_10 hl (by decide) rfl (fun ls hl => ?_)
  refine lv_aload_n hx hb dX5_isWritten_12 rfl (lv_at hl 1 rfl) ?_
  refine lv_aload hx hb dX5_isWritten_13 (lv_at hl 0 rfl) ?_
  refine ro_S (As := [.ref (rd i), .ref (g k)]) (rest := []) (wc := [(rd i, .inr (0, [.ref q0, .int (nI n)])), (q0, .inl (T 0, 440, .inl f))]) (r := .int (tlI k n b)) ⟨hx, hb, hml, hown, hts⟩ (c_X3_tell l D T g (rd i) q0 f n k b (hb9) hk) (va_cwS 2 hts gX5_isWritten_X3_tell rfl rfl rfl (by decide +kernel) ⟨Nat.le_of_ble_eq_true rfl, Nat.le_of_ble_eq_true rfl⟩) hP hK hG hS [2, 3] rfl ⟨Nat.zero_le _, Nat.zero_le _⟩ rfl hl.1 (Nat.le_of_ble_eq_true rfl) dX5_isWritten_15 rfl ?_
  refine lv_if_lt (tgt := 34) hx hb dX5_isWritten_18 (by decide) (fun _ => ?_) (fun q9 => absurd (hneg) q9)
  refine lv_iconst (v := (nI 0)) hx hb dX5_isWritten_34 (by decide +kernel) ?_
  exact W.zret (v := (nI 0)) (ty := .boolean) hx hb hr (rfl) (fun t ht hW => ⟨(congrArg (fun z => Outcome.returned (some (Value.int z))) (show (nI 0) = (nI 0) from rfl)), ht⟩) (fun q h => nomatch h) dX5_isWritten_35
set_option maxHeartbeats 4000000 in
set_option maxRecDepth 100000 in
theorem c_isWritten (l : Launch) (D : va_G) (T : Nat → ClassId) (g : Nat → Nat) (sz : Nat) (lo : Nat) (ra : Nat) (d0 : Nat) (b0 : Nat) (t0 : Nat) (r0 : Nat) (rd : Nat → Nat) (fr : Nat) (fq : Nat) (rf : Nat → Int32) (rn : Nat) (B0 : Int32) (hd0 : Int32) (dq : Nat) (df : Nat → Int32) (dn : Nat) (bq : Nat) (bf : Nat → Int32) (bn : Nat) (i : Nat) (q0 : Nat) (f : Nat → Int32) (n : Nat) (b : Nat → Nat) (hb9 : RB f n b) (hi : i < 6) (k : Nat) (hk : k < 3) (hw : wroB k n b = false) (hu : untB k n b = false) (L9 : Nat) (hL9 : L9 = lF k n b * 6 / 8) (hn3 : n ≤ 320) : MU l yX5_isWritten wsX5_isWritten ({ frames := 4, cells := 0, slots := 0, locals := 95 } : Room) D T g [.ref lo, .int (nI i), .int (nI k)] [(lo, .inr (2, [.ref ra, .ref d0, .ref b0, .ref t0, .ref r0])), (ra, .inl (T 2, 6, .inr (.inr (.inr (.inr (fun j => some (rd j))))))), (r0, .inr (1, [.ref fr, .int B0, .int hd0])), (fr, .inr (0, [.ref fq, .int (nI rn)])), (fq, .inl (T 0, 440, .inl rf)), (rd i, .inr (0, [.ref q0, .int (nI n)])), (q0, .inl (T 0, 440, .inl f)), (d0, .inr (0, [.ref dq, .int (nI dn)])), (dq, .inl (T 0, 440, .inl df)), (b0, .inr (0, [.ref bq, .int (nI bn)])), (bq, .inl (T 0, 440, .inl bf))] sz (fun u : (Nat → Int32) × Int32 × Int32 × (Nat → Int32) × (Nat → Int32) => some (.int (bI (saB n b (lnN k L9 1) (wrA k L9 (outB (lwF k n b))) || saB n b (lnN k L9 0) (wrA k L9 (outB (lwF k n b))))))) (fun u : (Nat → Int32) × Int32 × Int32 × (Nat → Int32) × (Nat → Int32) => True) (fun u : (Nat → Int32) × Int32 × Int32 × (Nat → Int32) × (Nat → Int32) => [(lo, .inr (2, [.ref ra, .ref d0, .ref b0, .ref t0, .ref r0])), (ra, .inl (T 2, 6, .inr (.inr (.inr (.inr (fun j => some (rd j))))))), (r0, .inr (1, [.ref fr, .int u.2.1, .int u.2.2.1])), (fr, .inr (0, [.ref fq, .int (nI L9)])), (fq, .inl (T 0, 440, .inl u.1)), (rd i, .inr (0, [.ref q0, .int (nI n)])), (q0, .inl (T 0, 440, .inl f)), (d0, .inr (0, [.ref dq, .int (nI (lnN k L9 1))])), (dq, .inl (T 0, 440, .inl u.2.2.2.1)), (b0, .inr (0, [.ref bq, .int (nI (lnN k L9 0))])), (bq, .inl (T 0, 440, .inl u.2.2.2.2))]) 0 0 := by
  refine Met.ofW (cc := cX5_isWritten) (maxL := 5) (ret := (some .boolean)) (by decide) rfl ?_
  intro p e s m args below meth c s₁ B hml hv
  obtain ⟨rfl, hsz, hP, hK, hD0, hG⟩ := hv
  have hx := B.exec
  have hb := B.bytes
  have hr := B.returns
  have hts := atoms_spec (ws := wsX5_isWritten) B.pre
  have hown : s.vm.findClass RX5 = some m.cls := findClass_of_methodNamed B.named
  have hlocks := B.notSynchronized
  have hi_X1 : ∀ w ∈ wsX10, w ∈ wsX5_isWritten := by decide +kernel
  have hi_X5 : ∀ w ∈ wsX50, w ∈ wsX5_isWritten := by decide +kernel
  subst hsz
  have hD := hD0.self (sz := s.heap.size)
  generalize hAe : va_A [(lo, .inr (2, [.ref ra, .ref d0, .ref b0, .ref t0, .ref r0])), (ra, .inl (T 2, 6, .inr (.inr (.inr (.inr (fun j => some (rd j))))))), (r0, .inr (1, [.ref fr, .int B0, .int hd0])), (fr, .inr (0, [.ref fq, .int (nI rn)])), (fq, .inl (T 0, 440, .inl rf)), (rd i, .inr (0, [.ref q0, .int (nI n)])), (q0, .inl (T 0, 440, .inl f)), (d0, .inr (0, [.ref dq, .int (nI dn)])), (dq, .inl (T 0, 440, .inl df)), (b0, .inr (0, [.ref bq, .int (nI bn)])), (bq, .inl (T 0, 440, .inl bf))] s.heap.size = A at hD hG ⊢
  have hA : ∀ q : Nat, s.heap.size ≤ q → A q := fun q h => by rw [← hAe]; exact Or.inr h
  have hS : va_S A s.heap s.heap [] := va_S.rf
  have hP : va_P D cls [(lo, .inr (2, [.ref ra, .ref d0, .ref b0, .ref t0, .ref r0])), (ra, .inl (T 2, 6, .inr (.inr (.inr (.inr (fun j => some (rd j))))))), (r0, .inr (1, [.ref fr, .int B0, .int hd0])), (fr, .inr (0, [.ref fq, .int (nI rn)])), (fq, .inl (T 0, 440, .inl rf)), (rd i, .inr (0, [.ref q0, .int (nI n)])), (q0, .inl (T 0, 440, .inl f)), (d0, .inr (0, [.ref dq, .int (nI dn)])), (dq, .inl (T 0, 440, .inl df)), (b0, .inr (0, [.ref bq, .int (nI bn)])), (bq, .inl (T 0, 440, .inl bf))] s.heap := hP
  have hl := lv_entry ([.ref lo, .int (nI i), .int (nI k)]) (n := 5) (Nat.le_of_ble_eq_true rfl)
  rw [lg_entry_eq]
  generalize (lg_sl ([.ref lo, .int (nI i), .int (nI k)]) ++ List.replicate (5 - (lg_sl ([.ref lo, .int (nI i), .int (nI k)])).length) Slot.unset).toArray = ls at hl ⊢
  have hl : lv_has ls 5 [(0, .ref lo), (1, .int (nI i)), (2, .int (nI k))] := hl
  have hn := hb9.1
  have hz9 := l9_le (k := k) (b := b) hn
  have ha9 := ac_yes hw hu
  refine lv_aload_n hx hb dX5_isWritten_0 rfl (lv_at hl 0 rfl) ?_
  refine lv_iload_n hx hb dX5_isWritten_1 rfl (lv_at hl 1 rfl) ?_
  refine ro_V (As := [.int (nI i)]) (rest := []) (wc := [(lo, .inr (2, [.ref ra, .ref d0, .ref b0, .ref t0, .ref r0])), (ra, .inl (T 2, 6, .inr (.inr (.inr (.inr (fun j => some (rd j)))))))]) (r := .ref (rd i)) ⟨hx, hb, hml, hown, hts⟩ (c_X5_rowAt l D T g lo ra d0 b0 t0 r0 rd i hi) (cwV 1 hts gX5_isWritten_X5_rowAt rfl rfl rfl (by decide +kernel) ⟨Nat.le_of_ble_eq_true rfl, Nat.le_of_ble_eq_true rfl⟩) (va_recv hK hP (ci := 2) (q0 := 0) rfl rfl) hP hK hG hS [0, 1] rfl ⟨Nat.zero_le _, Nat.zero_le _⟩ rfl hl.1 (Nat.le_of_ble_eq_true rfl) dX5_isWritten_2 rfl ?_
  refine lv_astore_n (lv' := [(3, .ref (rd i)), (0, .ref lo), (1, .int (nI i)), (2, .int (nI k))]) hx hb dX5_isWritten_5 rfl hl (by decide) rfl (fun ls hl => ?_)
  refine lv_iload_n hx hb dX5_isWritten_6 rfl (lv_at hl 3 rfl) ?_
  refine ro_S (As := [.int (nI k)]) (rest := []) (wc := []) (r := .ref (g k)) ⟨hx, hb, hml, hown, hts⟩ (c_X5_kindAt l D T g k hk) (va_cwS 1 hts gX5_isWritten_X5_kindAt rfl rfl rfl (by decide +kernel) ⟨Nat.le_of_ble_eq_true rfl, Nat.le_of_ble_eq_true rfl⟩) hP hK hG hS [] rfl ⟨Nat.zero_le _, Nat.zero_le _⟩ rfl hl.1 (Nat.le_of_ble_eq_true rfl) dX5_isWritten_7 rfl ?_
  refine lv_astore (lv' := [(4, .ref (g k)), (3, .ref (rd i)), (0, .ref lo), (1, .int (nI i)), (2, .int (nI k))]) hx hb dX5_isWritten_10 hl (by decide) rfl (fun ls hl => ?_)
  refine lv_aload_n hx hb dX5_isWritten_12 rfl (lv_at hl 1 rfl) ?_
  refine lv_aload hx hb dX5_isWritten_13 (lv_at hl 0 rfl) ?_
  refine ro_S (As := [.ref (rd i), .ref (g k)]) (rest := []) (wc := [(rd i, .inr (0, [.ref q0, .int (nI n)])), (q0, .inl (T 0, 440, .inl f))]) (r := .int (tlI k n b)) ⟨hx, hb, hml, hown, hts⟩ (c_X3_tell l D T g (rd i) q0 f n k b (hb9) hk) (va_cwS 2 hts gX5_isWritten_X3_tell rfl rfl rfl (by decide +kernel) ⟨Nat.le_of_ble_eq_true rfl, Nat.le_of_ble_eq_true rfl⟩) hP hK hG hS [5, 6] rfl ⟨Nat.zero_le _, Nat.zero_le _⟩ rfl hl.1 (Nat.le_of_ble_eq_true rfl) dX5_isWritten_15 rfl ?_
  rw [tl_good hw hu]
  refine ln_if_lt_f (tgt := 34) hx hb (by omega) dX5_isWritten_18 (by decide) ?_
  refine lv_aload_n hx hb dX5_isWritten_21 rfl (lv_at hl 2 rfl) ?_
  refine va_get (D := D) (ci := 2) (v := .ref r0) (C := RX5) (T := TX5) (N := 5) hx hb hts hi_X5 hown hK hP 0 rfl rfl 4 (by decide) (hts _ (List.mem_of_getElem? (i := 1) rfl)) (fun _ h9 => h9) rfl dX5_isWritten_22 ?_
  refine lv_aload_n hx hb dX5_isWritten_25 rfl (lv_at hl 1 rfl) ?_
  refine lv_aload hx hb dX5_isWritten_26 (lv_at hl 0 rfl) ?_
  refine mu_V (As := [.ref (rd i), .ref (g k)]) (rest := []) (wc := [(r0, .inr (1, [.ref fr, .int B0, .int hd0])), (fr, .inr (0, [.ref fq, .int (nI rn)])), (fq, .inl (T 0, 440, .inl rf)), (rd i, .inr (0, [.ref q0, .int (nI n)])), (q0, .inl (T 0, 440, .inl f))]) (wr := [(lo, .inr (2, [.ref ra, .ref d0, .ref b0, .ref t0, .ref r0])), (ra, .inl (T 2, 6, .inr (.inr (.inr (.inr (fun j => some (rd j))))))), (d0, .inr (0, [.ref dq, .int (nI dn)])), (dq, .inl (T 0, 440, .inl df)), (b0, .inr (0, [.ref bq, .int (nI bn)])), (bq, .inl (T 0, 440, .inl bf))]) ⟨hx, hb, hml, hown, hts⟩ (c_X1_accepts l D T g s.heap.size r0 fr fq rf rn B0 hd0 (rd i) q0 f n k b (hb9) hk) (cwV 2 hts gX5_isWritten_X1_accepts rfl rfl rfl (by decide +kernel) ⟨Nat.le_of_ble_eq_true rfl, Nat.le_of_ble_eq_true rfl⟩) (va_recv hK hP (ci := 1) (q0 := 2) rfl rfl) hP hD hK hG hS hA [2, 3, 4, 5, 6] [0, 1, 7, 8, 9, 10] rfl (by decide) rfl (by decide) (by decide) ⟨Nat.le_of_ble_eq_true rfl, Nat.le_of_ble_eq_true rfl⟩ rfl hl.1 (Nat.le_of_ble_eq_true rfl) dX5_isWritten_28 rfl (fun u H locs hq5 hP hD hS => ?_)
  obtain ⟨F2_1, nF2_2, B2_3, hd2_4⟩ := u
  have hP : va_P D cls [(lo, .inr (2, [.ref ra, .ref d0, .ref b0, .ref t0, .ref r0])), (ra, .inl (T 2, 6, .inr (.inr (.inr (.inr (fun j => some (rd j))))))), (d0, .inr (0, [.ref dq, .int (nI dn)])), (dq, .inl (T 0, 440, .inl df)), (b0, .inr (0, [.ref bq, .int (nI bn)])), (bq, .inl (T 0, 440, .inl bf)), (r0, .inr (1, [.ref fr, .int B2_3, .int hd2_4])), (fr, .inr (0, [.ref fq, .int (nI nF2_2)])), (fq, .inl (T 0, 440, .inl F2_1)), ((rd i), .inr (0, [.ref q0, .int (nI n)])), (q0, .inl (T 0, 440, .inl f))] H := hP
  have hD : va_D A [(lo, .inr (2, [.ref ra, .ref d0, .ref b0, .ref t0, .ref r0])), (ra, .inl (T 2, 6, .inr (.inr (.inr (.inr (fun j => some (rd j))))))), (d0, .inr (0, [.ref dq, .int (nI dn)])), (dq, .inl (T 0, 440, .inl df)), (b0, .inr (0, [.ref bq, .int (nI bn)])), (bq, .inl (T 0, 440, .inl bf)), (r0, .inr (1, [.ref fr, .int B2_3, .int hd2_4])), (fr, .inr (0, [.ref fq, .int (nI nF2_2)])), (fq, .inl (T 0, 440, .inl F2_1)), ((rd i), .inr (0, [.ref q0, .int (nI n)])), (q0, .inl (T 0, 440, .inl f))] := hD
  have hp1 : nF2_2 ≤ 440 ∧ (acB k n b = true → nF2_2 = cnF k n b ∧ RB F2_1 nF2_2 (outB (lwF k n b))) := hq5
  refine W.eq (g2 := F0 m 31 ls [.int (bI (acB k n b))]) rfl ?_
  refine lv_if_ne (tgt := 36) hx hb dX5_isWritten_31 (by decide) (fun _ => ?_) (fun q9 => absurd q9 (bI_nz.mpr ha9))
  have hRB := (hp1.2 ha9).2
  have e9 : nF2_2 = L9 := by rw [(hp1.2 ha9).1, cn_lF, hL9]
  rw [e9] at hP hD hRB
  refine lv_aload_n hx hb dX5_isWritten_36 rfl (lv_at hl 2 rfl) ?_
  refine va_get (D := D) (ci := 2) (v := .ref r0) (C := RX5) (T := TX5) (N := 5) hx hb hts hi_X5 hown hK hP 0 rfl rfl 4 (by decide) (hts _ (List.mem_of_getElem? (i := 1) rfl)) (fun _ h9 => h9) rfl dX5_isWritten_37 ?_
  refine va_getN (D := D) (ci := 1) (v := .ref fr) (C := RX1) (T := TX1) (N := 3) hx hb hts hi_X1 hown hK hP 6 rfl rfl 0 (by decide) (nx4 hG) (fun _ h9 => h9) rfl dX5_isWritten_40 ?_
  refine lv_aload hx hb dX5_isWritten_43 (lv_at hl 0 rfl) ?_
  refine lv_iconst (v := (nI 1)) hx hb dX5_isWritten_45 (by decide +kernel) ?_
  refine lv_aload_n hx hb dX5_isWritten_46 rfl (lv_at hl 2 rfl) ?_
  refine va_get (D := D) (ci := 2) (v := .ref d0) (C := RX5) (T := TX5) (N := 5) hx hb hts hi_X5 hown hK hP 0 rfl rfl 1 (by decide) (hts _ (List.mem_of_getElem? (i := 2) rfl)) (fun _ h9 => h9) rfl dX5_isWritten_47 ?_
  refine mu_S (As := [.ref fr, .ref (g k), .int (nI 1), .ref d0]) (rest := []) (wc := [(fr, .inr (0, [.ref fq, .int (nI L9)])), (fq, .inl (T 0, 440, .inl F2_1)), (d0, .inr (0, [.ref dq, .int (nI dn)])), (dq, .inl (T 0, 440, .inl df))]) (wr := [(lo, .inr (2, [.ref ra, .ref d0, .ref b0, .ref t0, .ref r0])), (ra, .inl (T 2, 6, .inr (.inr (.inr (.inr (fun j => some (rd j))))))), (b0, .inr (0, [.ref bq, .int (nI bn)])), (bq, .inl (T 0, 440, .inl bf)), (r0, .inr (1, [.ref fr, .int B2_3, .int hd2_4])), ((rd i), .inr (0, [.ref q0, .int (nI n)])), (q0, .inl (T 0, 440, .inl f))]) ⟨hx, hb, hml, hown, hts⟩ (c_X4_writeBytes l D T g H.size fr fq F2_1 L9 k 1 d0 dq df dn (outB (lwF k n b)) (hRB) hk (by omega)) (va_cwS 4 hts gX5_isWritten_X4_writeBytes rfl rfl rfl (by decide +kernel) ⟨Nat.le_of_ble_eq_true rfl, Nat.le_of_ble_eq_true rfl⟩) hP hD hK hG hS hA [7, 8, 2, 3] [0, 1, 4, 5, 6, 9, 10] rfl (by decide) rfl (by decide) (by decide) ⟨Nat.le_of_ble_eq_true rfl, Nat.le_of_ble_eq_true rfl⟩ rfl hl.1 (Nat.le_of_ble_eq_true rfl) dX5_isWritten_50 rfl (fun u H locs hq7 hP hD hS => ?_)
  obtain ⟨F_6, hu9⟩ : ∃ z, z = u := ⟨_, rfl⟩
  subst hu9
  have hP : va_P D cls [(lo, .inr (2, [.ref ra, .ref d0, .ref b0, .ref t0, .ref r0])), (ra, .inl (T 2, 6, .inr (.inr (.inr (.inr (fun j => some (rd j))))))), (b0, .inr (0, [.ref bq, .int (nI bn)])), (bq, .inl (T 0, 440, .inl bf)), (r0, .inr (1, [.ref fr, .int B2_3, .int hd2_4])), ((rd i), .inr (0, [.ref q0, .int (nI n)])), (q0, .inl (T 0, 440, .inl f)), (fr, .inr (0, [.ref fq, .int (nI L9)])), (fq, .inl (T 0, 440, .inl F2_1)), (d0, .inr (0, [.ref dq, .int (nI (lnN k L9 1))])), (dq, .inl (T 0, 440, .inl F_6))] H := hP
  have hD : va_D A [(lo, .inr (2, [.ref ra, .ref d0, .ref b0, .ref t0, .ref r0])), (ra, .inl (T 2, 6, .inr (.inr (.inr (.inr (fun j => some (rd j))))))), (b0, .inr (0, [.ref bq, .int (nI bn)])), (bq, .inl (T 0, 440, .inl bf)), (r0, .inr (1, [.ref fr, .int B2_3, .int hd2_4])), ((rd i), .inr (0, [.ref q0, .int (nI n)])), (q0, .inl (T 0, 440, .inl f)), (fr, .inr (0, [.ref fq, .int (nI L9)])), (fq, .inl (T 0, 440, .inl F2_1)), (d0, .inr (0, [.ref dq, .int (nI (lnN k L9 1))])), (dq, .inl (T 0, 440, .inl F_6))] := hD
  have hp2 : RB F_6 (lnN k L9 1) (wrA k L9 (outB (lwF k n b))) := hq7
  refine W.eq (g2 := F0 m 53 ls []) rfl ?_
  refine lv_aload_n hx hb dX5_isWritten_53 rfl (lv_at hl 2 rfl) ?_
  refine va_get (D := D) (ci := 2) (v := .ref r0) (C := RX5) (T := TX5) (N := 5) hx hb hts hi_X5 hown hK hP 0 rfl rfl 4 (by decide) (hts _ (List.mem_of_getElem? (i := 1) rfl)) (fun _ h9 => h9) rfl dX5_isWritten_54 ?_
  refine va_getN (D := D) (ci := 1) (v := .ref fr) (C := RX1) (T := TX1) (N := 3) hx hb hts hi_X1 hown hK hP 4 rfl rfl 0 (by decide) (nx4 hG) (fun _ h9 => h9) rfl dX5_isWritten_57 ?_
  refine lv_aload hx hb dX5_isWritten_60 (lv_at hl 0 rfl) ?_
  refine lv_iconst (v := (nI 0)) hx hb dX5_isWritten_62 (by decide +kernel) ?_
  refine lv_aload_n hx hb dX5_isWritten_63 rfl (lv_at hl 2 rfl) ?_
  refine va_get (D := D) (ci := 2) (v := .ref b0) (C := RX5) (T := TX5) (N := 5) hx hb hts hi_X5 hown hK hP 0 rfl rfl 2 (by decide) (hts _ (List.mem_of_getElem? (i := 3) rfl)) (fun _ h9 => h9) rfl dX5_isWritten_64 ?_
  refine mu_S (As := [.ref fr, .ref (g k), .int (nI 0), .ref b0]) (rest := []) (wc := [(fr, .inr (0, [.ref fq, .int (nI L9)])), (fq, .inl (T 0, 440, .inl F2_1)), (b0, .inr (0, [.ref bq, .int (nI bn)])), (bq, .inl (T 0, 440, .inl bf))]) (wr := [(lo, .inr (2, [.ref ra, .ref d0, .ref b0, .ref t0, .ref r0])), (ra, .inl (T 2, 6, .inr (.inr (.inr (.inr (fun j => some (rd j))))))), (r0, .inr (1, [.ref fr, .int B2_3, .int hd2_4])), ((rd i), .inr (0, [.ref q0, .int (nI n)])), (q0, .inl (T 0, 440, .inl f)), (d0, .inr (0, [.ref dq, .int (nI (lnN k L9 1))])), (dq, .inl (T 0, 440, .inl F_6))]) ⟨hx, hb, hml, hown, hts⟩ (c_X4_writeBytes l D T g H.size fr fq F2_1 L9 k 0 b0 bq bf bn (outB (lwF k n b)) (hRB) hk (by omega)) (va_cwS 4 hts gX5_isWritten_X4_writeBytes rfl rfl rfl (by decide +kernel) ⟨Nat.le_of_ble_eq_true rfl, Nat.le_of_ble_eq_true rfl⟩) hP hD hK hG hS hA [7, 8, 2, 3] [0, 1, 4, 5, 6, 9, 10] rfl (by decide) rfl (by decide) (by decide) ⟨Nat.le_of_ble_eq_true rfl, Nat.le_of_ble_eq_true rfl⟩ rfl hl.1 (Nat.le_of_ble_eq_true rfl) dX5_isWritten_67 rfl (fun u H locs hq9 hP hD hS => ?_)
  obtain ⟨F_8, hu9⟩ : ∃ z, z = u := ⟨_, rfl⟩
  subst hu9
  have hP : va_P D cls [(lo, .inr (2, [.ref ra, .ref d0, .ref b0, .ref t0, .ref r0])), (ra, .inl (T 2, 6, .inr (.inr (.inr (.inr (fun j => some (rd j))))))), (r0, .inr (1, [.ref fr, .int B2_3, .int hd2_4])), ((rd i), .inr (0, [.ref q0, .int (nI n)])), (q0, .inl (T 0, 440, .inl f)), (d0, .inr (0, [.ref dq, .int (nI (lnN k L9 1))])), (dq, .inl (T 0, 440, .inl F_6)), (fr, .inr (0, [.ref fq, .int (nI L9)])), (fq, .inl (T 0, 440, .inl F2_1)), (b0, .inr (0, [.ref bq, .int (nI (lnN k L9 0))])), (bq, .inl (T 0, 440, .inl F_8))] H := hP
  have hD : va_D A [(lo, .inr (2, [.ref ra, .ref d0, .ref b0, .ref t0, .ref r0])), (ra, .inl (T 2, 6, .inr (.inr (.inr (.inr (fun j => some (rd j))))))), (r0, .inr (1, [.ref fr, .int B2_3, .int hd2_4])), ((rd i), .inr (0, [.ref q0, .int (nI n)])), (q0, .inl (T 0, 440, .inl f)), (d0, .inr (0, [.ref dq, .int (nI (lnN k L9 1))])), (dq, .inl (T 0, 440, .inl F_6)), (fr, .inr (0, [.ref fq, .int (nI L9)])), (fq, .inl (T 0, 440, .inl F2_1)), (b0, .inr (0, [.ref bq, .int (nI (lnN k L9 0))])), (bq, .inl (T 0, 440, .inl F_8))] := hD
  have hp3 : RB F_8 (lnN k L9 0) (wrA k L9 (outB (lwF k n b))) := hq9
  refine W.eq (g2 := F0 m 70 ls []) rfl ?_
  refine lv_aload_n hx hb dX5_isWritten_70 rfl (lv_at hl 1 rfl) ?_
  refine lv_aload_n hx hb dX5_isWritten_71 rfl (lv_at hl 2 rfl) ?_
  refine va_get (D := D) (ci := 2) (v := .ref d0) (C := RX5) (T := TX5) (N := 5) hx hb hts hi_X5 hown hK hP 0 rfl rfl 1 (by decide) (hts _ (List.mem_of_getElem? (i := 2) rfl)) (fun _ h9 => h9) rfl dX5_isWritten_72 ?_
  refine ro_V (As := [.ref d0]) (rest := []) (wc := [((rd i), .inr (0, [.ref q0, .int (nI n)])), (q0, .inl (T 0, 440, .inl f)), (d0, .inr (0, [.ref dq, .int (nI (lnN k L9 1))])), (dq, .inl (T 0, 440, .inl F_6))]) (r := .int (bI (saB n b (lnN k L9 1) (wrA k L9 (outB (lwF k n b)))))) ⟨hx, hb, hml, hown, hts⟩ (c_X2_sameAs l D T g (rd i) q0 f n d0 dq F_6 (lnN k L9 1) b (wrA k L9 (outB (lwF k n b))) (hb9) (hp2)) (cwV 1 hts gX5_isWritten_X2_sameAs rfl rfl rfl (by decide +kernel) ⟨Nat.le_of_ble_eq_true rfl, Nat.le_of_ble_eq_true rfl⟩) (va_recv hK hP (ci := 0) (q0 := 3) rfl rfl) hP hK hG hS [3, 4, 5, 6] rfl ⟨Nat.zero_le _, Nat.zero_le _⟩ rfl hl.1 (Nat.le_of_ble_eq_true rfl) dX5_isWritten_75 rfl ?_
  refine lv_if_ne (tgt := 92) hx hb dX5_isWritten_78 (by decide) (fun c_78 => ?_) (fun c_78 => ?_)
  · refine lv_iconst (v := (nI 1)) hx hb dX5_isWritten_92 (by decide +kernel) ?_
    refine lv_goto (tgt := 97) hx hb dX5_isWritten_93 (by decide) ?_
    have hP9 := hP.sub (ws' := [(lo, .inr (2, [.ref ra, .ref d0, .ref b0, .ref t0, .ref r0])), (ra, .inl (T 2, 6, .inr (.inr (.inr (.inr (fun j => some (rd j))))))), (r0, .inr (1, [.ref fr, .int B2_3, .int hd2_4])), (fr, .inr (0, [.ref fq, .int (nI L9)])), (fq, .inl (T 0, 440, .inl F2_1)), ((rd i), .inr (0, [.ref q0, .int (nI n)])), (q0, .inl (T 0, 440, .inl f)), (d0, .inr (0, [.ref dq, .int (nI (lnN k L9 1))])), (dq, .inl (T 0, 440, .inl F_6)), (b0, .inr (0, [.ref bq, .int (nI (lnN k L9 0))])), (bq, .inl (T 0, 440, .inl F_8))]) [0, 1, 2, 7, 8, 3, 4, 5, 6, 9, 10] rfl
    have hD9 := hD.sub (ws' := [(lo, .inr (2, [.ref ra, .ref d0, .ref b0, .ref t0, .ref r0])), (ra, .inl (T 2, 6, .inr (.inr (.inr (.inr (fun j => some (rd j))))))), (r0, .inr (1, [.ref fr, .int B2_3, .int hd2_4])), (fr, .inr (0, [.ref fq, .int (nI L9)])), (fq, .inl (T 0, 440, .inl F2_1)), ((rd i), .inr (0, [.ref q0, .int (nI n)])), (q0, .inl (T 0, 440, .inl f)), (d0, .inr (0, [.ref dq, .int (nI (lnN k L9 1))])), (dq, .inl (T 0, 440, .inl F_6)), (b0, .inr (0, [.ref bq, .int (nI (lnN k L9 0))])), (bq, .inl (T 0, 440, .inl F_8))]) [0, 1, 2, 7, 8, 3, 4, 5, 6, 9, 10] (by decide) rfl
    exact W.zret (v := (nI 1)) (ty := .boolean) hx hb hr (rfl) (fun t ht hW => ⟨⟨(F2_1, B2_3, hd2_4, F_6, F_8), congrArg (fun z => Outcome.returned (some (Value.int z))) (by first | (rw [bI_nz.mp c_78]; rfl) | (rw [bI_nz.mp c_89, Bool.or_true]; rfl)), trivial, (by rw [ht]; exact hP9), va_K.moved hW.alike hK, hD9⟩, hS.F ht⟩) hS.2.2 dX5_isWritten_97
  · refine lv_aload_n hx hb dX5_isWritten_81 rfl (lv_at hl 1 rfl) ?_
    refine lv_aload_n hx hb dX5_isWritten_82 rfl (lv_at hl 2 rfl) ?_
    refine va_get (D := D) (ci := 2) (v := .ref b0) (C := RX5) (T := TX5) (N := 5) hx hb hts hi_X5 hown hK hP 0 rfl rfl 2 (by decide) (hts _ (List.mem_of_getElem? (i := 3) rfl)) (fun _ h9 => h9) rfl dX5_isWritten_83 ?_
    refine ro_V (As := [.ref b0]) (rest := []) (wc := [((rd i), .inr (0, [.ref q0, .int (nI n)])), (q0, .inl (T 0, 440, .inl f)), (b0, .inr (0, [.ref bq, .int (nI (lnN k L9 0))])), (bq, .inl (T 0, 440, .inl F_8))]) (r := .int (bI (saB n b (lnN k L9 0) (wrA k L9 (outB (lwF k n b)))))) ⟨hx, hb, hml, hown, hts⟩ (c_X2_sameAs l D T g (rd i) q0 f n b0 bq F_8 (lnN k L9 0) b (wrA k L9 (outB (lwF k n b))) (hb9) (hp3)) (cwV 1 hts gX5_isWritten_X2_sameAs rfl rfl rfl (by decide +kernel) ⟨Nat.le_of_ble_eq_true rfl, Nat.le_of_ble_eq_true rfl⟩) (va_recv hK hP (ci := 0) (q0 := 3) rfl rfl) hP hK hG hS [3, 4, 9, 10] rfl ⟨Nat.zero_le _, Nat.zero_le _⟩ rfl hl.1 (Nat.le_of_ble_eq_true rfl) dX5_isWritten_86 rfl ?_
    refine lv_if_eq (tgt := 96) hx hb dX5_isWritten_89 (by decide) (fun c_89 => ?_) (fun c_89 => ?_)
    · refine lv_iconst (v := (nI 0)) hx hb dX5_isWritten_96 (by decide +kernel) ?_
      have hP9 := hP.sub (ws' := [(lo, .inr (2, [.ref ra, .ref d0, .ref b0, .ref t0, .ref r0])), (ra, .inl (T 2, 6, .inr (.inr (.inr (.inr (fun j => some (rd j))))))), (r0, .inr (1, [.ref fr, .int B2_3, .int hd2_4])), (fr, .inr (0, [.ref fq, .int (nI L9)])), (fq, .inl (T 0, 440, .inl F2_1)), ((rd i), .inr (0, [.ref q0, .int (nI n)])), (q0, .inl (T 0, 440, .inl f)), (d0, .inr (0, [.ref dq, .int (nI (lnN k L9 1))])), (dq, .inl (T 0, 440, .inl F_6)), (b0, .inr (0, [.ref bq, .int (nI (lnN k L9 0))])), (bq, .inl (T 0, 440, .inl F_8))]) [0, 1, 2, 7, 8, 3, 4, 5, 6, 9, 10] rfl
      have hD9 := hD.sub (ws' := [(lo, .inr (2, [.ref ra, .ref d0, .ref b0, .ref t0, .ref r0])), (ra, .inl (T 2, 6, .inr (.inr (.inr (.inr (fun j => some (rd j))))))), (r0, .inr (1, [.ref fr, .int B2_3, .int hd2_4])), (fr, .inr (0, [.ref fq, .int (nI L9)])), (fq, .inl (T 0, 440, .inl F2_1)), ((rd i), .inr (0, [.ref q0, .int (nI n)])), (q0, .inl (T 0, 440, .inl f)), (d0, .inr (0, [.ref dq, .int (nI (lnN k L9 1))])), (dq, .inl (T 0, 440, .inl F_6)), (b0, .inr (0, [.ref bq, .int (nI (lnN k L9 0))])), (bq, .inl (T 0, 440, .inl F_8))]) [0, 1, 2, 7, 8, 3, 4, 5, 6, 9, 10] (by decide) rfl
      exact W.zret (v := (nI 0)) (ty := .boolean) hx hb hr (rfl) (fun t ht hW => ⟨⟨(F2_1, B2_3, hd2_4, F_6, F_8), congrArg (fun z => Outcome.returned (some (Value.int z))) (by rw [bI_z.mp c_78, bI_z.mp c_89]; rfl), trivial, (by rw [ht]; exact hP9), va_K.moved hW.alike hK, hD9⟩, hS.F ht⟩) hS.2.2 dX5_isWritten_97
    · refine lv_iconst (v := (nI 1)) hx hb dX5_isWritten_92 (by decide +kernel) ?_
      refine lv_goto (tgt := 97) hx hb dX5_isWritten_93 (by decide) ?_
      have hP9 := hP.sub (ws' := [(lo, .inr (2, [.ref ra, .ref d0, .ref b0, .ref t0, .ref r0])), (ra, .inl (T 2, 6, .inr (.inr (.inr (.inr (fun j => some (rd j))))))), (r0, .inr (1, [.ref fr, .int B2_3, .int hd2_4])), (fr, .inr (0, [.ref fq, .int (nI L9)])), (fq, .inl (T 0, 440, .inl F2_1)), ((rd i), .inr (0, [.ref q0, .int (nI n)])), (q0, .inl (T 0, 440, .inl f)), (d0, .inr (0, [.ref dq, .int (nI (lnN k L9 1))])), (dq, .inl (T 0, 440, .inl F_6)), (b0, .inr (0, [.ref bq, .int (nI (lnN k L9 0))])), (bq, .inl (T 0, 440, .inl F_8))]) [0, 1, 2, 7, 8, 3, 4, 5, 6, 9, 10] rfl
      have hD9 := hD.sub (ws' := [(lo, .inr (2, [.ref ra, .ref d0, .ref b0, .ref t0, .ref r0])), (ra, .inl (T 2, 6, .inr (.inr (.inr (.inr (fun j => some (rd j))))))), (r0, .inr (1, [.ref fr, .int B2_3, .int hd2_4])), (fr, .inr (0, [.ref fq, .int (nI L9)])), (fq, .inl (T 0, 440, .inl F2_1)), ((rd i), .inr (0, [.ref q0, .int (nI n)])), (q0, .inl (T 0, 440, .inl f)), (d0, .inr (0, [.ref dq, .int (nI (lnN k L9 1))])), (dq, .inl (T 0, 440, .inl F_6)), (b0, .inr (0, [.ref bq, .int (nI (lnN k L9 0))])), (bq, .inl (T 0, 440, .inl F_8))]) [0, 1, 2, 7, 8, 3, 4, 5, 6, 9, 10] (by decide) rfl
      exact W.zret (v := (nI 1)) (ty := .boolean) hx hb hr (rfl) (fun t ht hW => ⟨⟨(F2_1, B2_3, hd2_4, F_6, F_8), congrArg (fun z => Outcome.returned (some (Value.int z))) (by first | (rw [bI_nz.mp c_78]; rfl) | (rw [bI_nz.mp c_89, Bool.or_true]; rfl)), trivial, (by rw [ht]; exact hP9), va_K.moved hW.alike hK, hD9⟩, hS.F ht⟩) hS.2.2 dX5_isWritten_97
set_option maxHeartbeats 4000000 in
set_option maxRecDepth 100000 in
/-- plain: no such row -/
theorem c_plain_x1 (l : Launch) (D : va_G) (T : Nat → ClassId) (g : Nat → Nat) (sz : Nat) (hl9 : l.stackTraces = false) (lo : Nat) (ra : Nat) (d0 : Nat) (b0 : Nat) (t0 : Nat) (r0 : Nat) (rd : Nat → Nat) (i : Int32) (hi : i < 0 ∨ ¬ i < nI 6) (x0 : Int32) : TX l yX5_plain wsX5_plain ({ frames := 7, cells := 1, slots := 6, locals := 111 } : Room) D T g [.ref lo, .int i, .int x0] [(lo, .inr (2, [.ref ra, .ref d0, .ref b0, .ref t0, .ref r0])), (ra, .inl (T 2, 6, .inr (.inr (.inr (.inr (fun j => some (rd j)))))))] sz "java/lang/IndexOutOfBoundsException" (fun u : Unit => True) (fun u : Unit => [(lo, .inr (2, [.ref ra, .ref d0, .ref b0, .ref t0, .ref r0])), (ra, .inl (T 2, 6, .inr (.inr (.inr (.inr (fun j => some (rd j)))))))]) 1 6 := by
  refine vx_ofW (cc := cX5_plain) (maxL := 5) (ret := (some .int)) (by decide) rfl ?_
  intro p e s m args below meth c s₁ B hml ht hv
  obtain ⟨rfl, hsz, hP, hK, hD0, hG⟩ := hv
  have hx := B.exec
  have hb := B.bytes
  have hr := B.returns
  have hts := atoms_spec (ws := wsX5_plain) B.pre
  have hown : s.vm.findClass RX5 = some m.cls := findClass_of_methodNamed B.named
  have hlocks := B.notSynchronized
  subst hsz
  have hD := hD0.self (sz := s.heap.size)
  generalize hAe : va_A [(lo, .inr (2, [.ref ra, .ref d0, .ref b0, .ref t0, .ref r0])), (ra, .inl (T 2, 6, .inr (.inr (.inr (.inr (fun j => some (rd j)))))))] s.heap.size = A at hD hG ⊢
  have hA : ∀ q : Nat, s.heap.size ≤ q → A q := fun q h => by rw [← hAe]; exact Or.inr h
  have hS : va_S A s.heap s.heap [] := va_S.rf
  have hP : va_P D cls [(lo, .inr (2, [.ref ra, .ref d0, .ref b0, .ref t0, .ref r0])), (ra, .inl (T 2, 6, .inr (.inr (.inr (.inr (fun j => some (rd j)))))))] s.heap := hP
  have hl := lv_entry ([.ref lo, .int i, .int x0]) (n := 5) (Nat.le_of_ble_eq_true rfl)
  rw [lg_entry_eq]
  generalize (lg_sl ([.ref lo, .int i, .int x0]) ++ List.replicate (5 - (lg_sl ([.ref lo, .int i, .int x0])).length) Slot.unset).toArray = ls at hl ⊢
  have hl : lv_has ls 5 [(0, .ref lo), (1, .int i), (2, .int x0)] := hl
  refine lv_aload_n hx hb dX5_plain_0 rfl (lv_at hl 0 rfl) ?_
  refine lv_iload_n hx hb dX5_plain_1 rfl (lv_at hl 1 rfl) ?_
  refine tx_V (As := [.int i]) (rest := []) (wc := [(lo, .inr (2, [.ref ra, .ref d0, .ref b0, .ref t0, .ref r0])), (ra, .inl (T 2, 6, .inr (.inr (.inr (.inr (fun j => some (rd j)))))))]) (wr := []) ⟨hx, hb, hml, hown, hts⟩ (c_X5_rowAt_x l D T g s.heap.size hl9 lo ra d0 b0 t0 r0 rd i hi) (cwV 1 hts gX5_plain_X5_rowAt rfl rfl rfl (by decide +kernel) ⟨Nat.le_of_ble_eq_true rfl, Nat.le_of_ble_eq_true rfl⟩) (va_recv hK hP (ci := 2) (q0 := 0) rfl rfl) hP hD hK hG hS hA [0, 1] [] rfl (by decide) rfl (by decide) (by decide) ⟨Nat.le_of_ble_eq_true rfl, Nat.le_of_ble_eq_true rfl⟩ rfl hl.1 (Nat.le_of_ble_eq_true rfl) dX5_plain_2 rfl ht hlocks (fun u t hal hq1 hP hD hFF => ?_) (Nat.le_of_ble_eq_true rfl) (Nat.le_of_ble_eq_true rfl)
  have hP : va_P D cls [(lo, .inr (2, [.ref ra, .ref d0, .ref b0, .ref t0, .ref r0])), (ra, .inl (T 2, 6, .inr (.inr (.inr (.inr (fun j => some (rd j)))))))] t.heap := hP
  have hD : va_D A [(lo, .inr (2, [.ref ra, .ref d0, .ref b0, .ref t0, .ref r0])), (ra, .inl (T 2, 6, .inr (.inr (.inr (.inr (fun j => some (rd j)))))))] := hD
  exact ⟨rfl, ⟨(), trivial, hP.sub (ws' := [(lo, .inr (2, [.ref ra, .ref d0, .ref b0, .ref t0, .ref r0])), (ra, .inl (T 2, 6, .inr (.inr (.inr (.inr (fun j => some (rd j)))))))]) [0, 1] rfl, va_K.moved hal hK, hD.sub (ws' := [(lo, .inr (2, [.ref ra, .ref d0, .ref b0, .ref t0, .ref r0])), (ra, .inl (T 2, 6, .inr (.inr (.inr (.inr (fun j => some (rd j)))))))]) [0, 1] (by decide) rfl⟩, hFF⟩
set_option maxHeartbeats 4000000 in
set_option maxRecDepth 100000 in
theorem c_plain_x2 (l : Launch) (D : va_G) (T : Nat → ClassId) (g : Nat → Nat) (sz : Nat) (hl9 : l.stackTraces = false) (lo : Nat) (ra : Nat) (d0 : Nat) (b0 : Nat) (t0 : Nat) (r0 : Nat) (rd : Nat → Nat) (i : Nat) (q0 : Nat) (f : Nat → Int32) (n : Nat) (hi : i < 6) (k : Int32) (hk : k < 0 ∨ ¬ k < nI 3) : TX l yX5_plain wsX5_plain ({ frames := 7, cells := 1, slots := 6, locals := 110 } : Room) D T g [.ref lo, .int (nI i), .int k] [(lo, .inr (2, [.ref ra, .ref d0, .ref b0, .ref t0, .ref r0])), (ra, .inl (T 2, 6, .inr (.inr (.inr (.inr (fun j => some (rd j))))))), (rd i, .inr (0, [.ref q0, .int (nI n)])), (q0, .inl (T 0, 440, .inl f))] sz "java/lang/IllegalArgumentException" (fun u : Unit => True) (fun u : Unit => [(lo, .inr (2, [.ref ra, .ref d0, .ref b0, .ref t0, .ref r0])), (ra, .inl (T 2, 6, .inr (.inr (.inr (.inr (fun j => some (rd j))))))), (rd i, .inr (0, [.ref q0, .int (nI n)])), (q0, .inl (T 0, 440, .inl f))]) 1 6 := by
  refine vx_ofW (cc := cX5_plain) (maxL := 5) (ret := (some .int)) (by decide) rfl ?_
  intro p e s m args below meth c s₁ B hml ht hv
  obtain ⟨rfl, hsz, hP, hK, hD0, hG⟩ := hv
  have hx := B.exec
  have hb := B.bytes
  have hr := B.returns
  have hts := atoms_spec (ws := wsX5_plain) B.pre
  have hown : s.vm.findClass RX5 = some m.cls := findClass_of_methodNamed B.named
  have hlocks := B.notSynchronized
  subst hsz
  have hD := hD0.self (sz := s.heap.size)
  generalize hAe : va_A [(lo, .inr (2, [.ref ra, .ref d0, .ref b0, .ref t0, .ref r0])), (ra, .inl (T 2, 6, .inr (.inr (.inr (.inr (fun j => some (rd j))))))), (rd i, .inr (0, [.ref q0, .int (nI n)])), (q0, .inl (T 0, 440, .inl f))] s.heap.size = A at hD hG ⊢
  have hA : ∀ q : Nat, s.heap.size ≤ q → A q := fun q h => by rw [← hAe]; exact Or.inr h
  have hS : va_S A s.heap s.heap [] := va_S.rf
  have hP : va_P D cls [(lo, .inr (2, [.ref ra, .ref d0, .ref b0, .ref t0, .ref r0])), (ra, .inl (T 2, 6, .inr (.inr (.inr (.inr (fun j => some (rd j))))))), (rd i, .inr (0, [.ref q0, .int (nI n)])), (q0, .inl (T 0, 440, .inl f))] s.heap := hP
  have hl := lv_entry ([.ref lo, .int (nI i), .int k]) (n := 5) (Nat.le_of_ble_eq_true rfl)
  rw [lg_entry_eq]
  generalize (lg_sl ([.ref lo, .int (nI i), .int k]) ++ List.replicate (5 - (lg_sl ([.ref lo, .int (nI i), .int k])).length) Slot.unset).toArray = ls at hl ⊢
  have hl : lv_has ls 5 [(0, .ref lo), (1, .int (nI i)), (2, .int k)] := hl
  refine lv_aload_n hx hb dX5_plain_0 rfl (lv_at hl 0 rfl) ?_
  refine lv_iload_n hx hb dX5_plain_1 rfl (lv_at hl 1 rfl) ?_
  refine ro_V (As := [.int (nI i)]) (rest := []) (wc := [(lo, .inr (2, [.ref ra, .ref d0, .ref b0, .ref t0, .ref r0])), (ra, .inl (T 2, 6, .inr (.inr (.inr (.inr (fun j => some (rd j)))))))]) (r := .ref (rd i)) ⟨hx, hb, hml, hown, hts⟩ (c_X5_rowAt l D T g lo ra d0 b0 t0 r0 rd i hi) (cwV 1 hts gX5_plain_X5_rowAt rfl rfl rfl (by decide +kernel) ⟨Nat.le_of_ble_eq_true rfl, Nat.le_of_ble_eq_true rfl⟩) (va_recv hK hP (ci := 2) (q0 := 0) rfl rfl) hP hK hG hS [0, 1] rfl ⟨Nat.zero_le _, Nat.zero_le _⟩ rfl hl.1 (Nat.le_of_ble_eq_true rfl) dX5_plain_2 rfl ?_
  refine lv_astore_n (lv' := [(3, .ref (rd i)), (0, .ref lo), (1, .int (nI i)), (2, .int k)]) hx hb dX5_plain_5 rfl hl (by decide) rfl (fun ls hl => ?_)
  refine lv_iload_n hx hb dX5_plain_6 rfl (lv_at hl 3 rfl) ?_
  refine tx_S (As := [.int k]) (rest := []) (wc := []) (wr := [(lo, .inr (2, [.ref ra, .ref d0, .ref b0, .ref t0, .ref r0])), (ra, .inl (T 2, 6, .inr (.inr (.inr (.inr (fun j => some (rd j))))))), (rd i, .inr (0, [.ref q0, .int (nI n)])), (q0, .inl (T 0, 440, .inl f))]) ⟨hx, hb, hml, hown, hts⟩ (c_X5_kindAt_x l D T g s.heap.size hl9 k hk) (va_cwS 1 hts gX5_plain_X5_kindAt rfl rfl rfl (by decide +kernel) ⟨Nat.le_of_ble_eq_true rfl, Nat.le_of_ble_eq_true rfl⟩) hP hD hK hG hS hA [] [0, 1, 2, 3] rfl (by decide) rfl (by decide) (by decide) ⟨Nat.le_of_ble_eq_true rfl, Nat.le_of_ble_eq_true rfl⟩ rfl hl.1 (Nat.le_of_ble_eq_true rfl) dX5_plain_7 rfl ht hlocks (fun u t hal hq1 hP hD hFF => ?_) (Nat.le_of_ble_eq_true rfl) (Nat.le_of_ble_eq_true rfl)
  have hP : va_P D cls [(lo, .inr (2, [.ref ra, .ref d0, .ref b0, .ref t0, .ref r0])), (ra, .inl (T 2, 6, .inr (.inr (.inr (.inr (fun j => some (rd j))))))), (rd i, .inr (0, [.ref q0, .int (nI n)])), (q0, .inl (T 0, 440, .inl f))] t.heap := hP
  have hD : va_D A [(lo, .inr (2, [.ref ra, .ref d0, .ref b0, .ref t0, .ref r0])), (ra, .inl (T 2, 6, .inr (.inr (.inr (.inr (fun j => some (rd j))))))), (rd i, .inr (0, [.ref q0, .int (nI n)])), (q0, .inl (T 0, 440, .inl f))] := hD
  exact ⟨rfl, ⟨(), trivial, hP.sub (ws' := [(lo, .inr (2, [.ref ra, .ref d0, .ref b0, .ref t0, .ref r0])), (ra, .inl (T 2, 6, .inr (.inr (.inr (.inr (fun j => some (rd j))))))), (rd i, .inr (0, [.ref q0, .int (nI n)])), (q0, .inl (T 0, 440, .inl f))]) [0, 1, 2, 3] rfl, va_K.moved hal hK, hD.sub (ws' := [(lo, .inr (2, [.ref ra, .ref d0, .ref b0, .ref t0, .ref r0])), (ra, .inl (T 2, 6, .inr (.inr (.inr (.inr (fun j => some (rd j))))))), (rd i, .inr (0, [.ref q0, .int (nI n)])), (q0, .inl (T 0, 440, .inl f))]) [0, 1, 2, 3] (by decide) rfl⟩, hFF⟩
set_option maxHeartbeats 4000000 in
set_option maxRecDepth 100000 in
theorem c_plain_x4 (l : Launch) (D : va_G) (T : Nat → ClassId) (g : Nat → Nat) (sz : Nat) (hl9 : l.stackTraces = false) (lo : Nat) (ra : Nat) (d0 : Nat) (b0 : Nat) (t0 : Nat) (r0 : Nat) (rd : Nat → Nat) (fr : Nat) (fq : Nat) (rf : Nat → Int32) (rn : Nat) (B0 : Int32) (hd0 : Int32) (i : Nat) (q0 : Nat) (f : Nat → Int32) (n : Nat) (b : Nat → Nat) (hb9 : RB f n b) (hi : i < 6) (k : Nat) (hk : k < 3) (hw : wroB k n b = true) : TX l yX5_plain wsX5_plain ({ frames := 7, cells := 1, slots := 6, locals := 116 } : Room) D T g [.ref lo, .int (nI i), .int (nI k)] [(lo, .inr (2, [.ref ra, .ref d0, .ref b0, .ref t0, .ref r0])), (ra, .inl (T 2, 6, .inr (.inr (.inr (.inr (fun j => some (rd j))))))), (r0, .inr (1, [.ref fr, .int B0, .int hd0])), (fr, .inr (0, [.ref fq, .int (nI rn)])), (fq, .inl (T 0, 440, .inl rf)), (rd i, .inr (0, [.ref q0, .int (nI n)])), (q0, .inl (T 0, 440, .inl f))] sz "java/lang/IllegalArgumentException" (fun u : (Nat → Int32) × Nat × Int32 × Int32 => True) (fun u : (Nat → Int32) × Nat × Int32 × Int32 => [(lo, .inr (2, [.ref ra, .ref d0, .ref b0, .ref t0, .ref r0])), (ra, .inl (T 2, 6, .inr (.inr (.inr (.inr (fun j => some (rd j))))))), (r0, .inr (1, [.ref fr, .int u.2.2.1, .int u.2.2.2])), (fr, .inr (0, [.ref fq, .int (nI u.2.1)])), (fq, .inl (T 0, 440, .inl u.1)), (rd i, .inr (0, [.ref q0, .int (nI n)])), (q0, .inl (T 0, 440, .inl f))]) 1 6 := by
  refine vx_ofW (cc := cX5_plain) (maxL := 5) (ret := (some .int)) (by decide) rfl ?_
  intro p e s m args below meth c s₁ B hml ht hv
  obtain ⟨rfl, hsz, hP, hK, hD0, hG⟩ := hv
  have hx := B.exec
  have hb := B.bytes
  have hr := B.returns
  have hts := atoms_spec (ws := wsX5_plain) B.pre
  have hown : s.vm.findClass RX5 = some m.cls := findClass_of_methodNamed B.named
  have hlocks := B.notSynchronized
  subst hsz
  have hD := hD0.self (sz := s.heap.size)
  generalize hAe : va_A [(lo, .inr (2, [.ref ra, .ref d0, .ref b0, .ref t0, .ref r0])), (ra, .inl (T 2, 6, .inr (.inr (.inr (.inr (fun j => some (rd j))))))), (r0, .inr (1, [.ref fr, .int B0, .int hd0])), (fr, .inr (0, [.ref fq, .int (nI rn)])), (fq, .inl (T 0, 440, .inl rf)), (rd i, .inr (0, [.ref q0, .int (nI n)])), (q0, .inl (T 0, 440, .inl f))] s.heap.size = A at hD hG ⊢
  have hA : ∀ q : Nat, s.heap.size ≤ q → A q := fun q h => by rw [← hAe]; exact Or.inr h
  have hS : va_S A s.heap s.heap [] := va_S.rf
  have hP : va_P D cls [(lo, .inr (2, [.ref ra, .ref d0, .ref b0, .ref t0, .ref r0])), (ra, .inl (T 2, 6, .inr (.inr (.inr (.inr (fun j => some (rd j))))))), (r0, .inr (1, [.ref fr, .int B0, .int hd0])), (fr, .inr (0, [.ref fq, .int (nI rn)])), (fq, .inl (T 0, 440, .inl rf)), (rd i, .inr (0, [.ref q0, .int (nI n)])), (q0, .inl (T 0, 440, .inl f))] s.heap := hP
  have hl := lv_entry ([.ref lo, .int (nI i), .int (nI k)]) (n := 5) (Nat.le_of_ble_eq_true rfl)
  rw [lg_entry_eq]
  generalize (lg_sl ([.ref lo, .int (nI i), .int (nI k)]) ++ List.replicate (5 - (lg_sl ([.ref lo, .int (nI i), .int (nI k)])).length) Slot.unset).toArray = ls at hl ⊢
  have hl : lv_has ls 5 [(0, .ref lo), (1, .int (nI i)), (2, .int (nI k))] := hl
  refine lv_aload_n hx hb dX5_plain_0 rfl (lv_at hl 0 rfl) ?_
  refine lv_iload_n hx hb dX5_plain_1 rfl (lv_at hl 1 rfl) ?_
  refine ro_V (As := [.int (nI i)]) (rest := []) (wc := [(lo, .inr (2, [.ref ra, .ref d0, .ref b0, .ref t0, .ref r0])), (ra, .inl (T 2, 6, .inr (.inr (.inr (.inr (fun j => some (rd j)))))))]) (r := .ref (rd i)) ⟨hx, hb, hml, hown, hts⟩ (c_X5_rowAt l D T g lo ra d0 b0 t0 r0 rd i hi) (cwV 1 hts gX5_plain_X5_rowAt rfl rfl rfl (by decide +kernel) ⟨Nat.le_of_ble_eq_true rfl, Nat.le_of_ble_eq_true rfl⟩) (va_recv hK hP (ci := 2) (q0 := 0) rfl rfl) hP hK hG hS [0, 1] rfl ⟨Nat.zero_le _, Nat.zero_le _⟩ rfl hl.1 (Nat.le_of_ble_eq_true rfl) dX5_plain_2 rfl ?_
  refine lv_astore_n (lv' := [(3, .ref (rd i)), (0, .ref lo), (1, .int (nI i)), (2, .int (nI k))]) hx hb dX5_plain_5 rfl hl (by decide) rfl (fun ls hl => ?_)
  refine lv_iload_n hx hb dX5_plain_6 rfl (lv_at hl 3 rfl) ?_
  refine ro_S (As := [.int (nI k)]) (rest := []) (wc := []) (r := .ref (g k)) ⟨hx, hb, hml, hown, hts⟩ (c_X5_kindAt l D T g k hk) (va_cwS 1 hts gX5_plain_X5_kindAt rfl rfl rfl (by decide +kernel) ⟨Nat.le_of_ble_eq_true rfl, Nat.le_of_ble_eq_true rfl⟩) hP hK hG hS [] rfl ⟨Nat.zero_le _, Nat.zero_le _⟩ rfl hl.1 (Nat.le_of_ble_eq_true rfl) dX5_plain_7 rfl ?_
  refine lv_astore (lv' := [(4, .ref (g k)), (3, .ref (rd i)), (0, .ref lo), (1, .int (nI i)), (2, .int (nI k))]) hx hb dX5_plain_10 hl (by decide) rfl (fun ls hl => ?_)
  refine lv_aload_n hx hb dX5_plain_12 rfl (lv_at hl 2 rfl) ?_
  refine lv_aload_n hx hb dX5_plain_13 rfl (lv_at hl 1 rfl) ?_
  refine lv_aload hx hb dX5_plain_14 (lv_at hl 0 rfl) ?_
  refine tx_V (As := [.ref (rd i), .ref (g k)]) (rest := []) (wc := [(lo, .inr (2, [.ref ra, .ref d0, .ref b0, .ref t0, .ref r0])), (ra, .inl (T 2, 6, .inr (.inr (.inr (.inr (fun j => some (rd j))))))), (r0, .inr (1, [.ref fr, .int B0, .int hd0])), (fr, .inr (0, [.ref fq, .int (nI rn)])), (fq, .inl (T 0, 440, .inl rf)), (rd i, .inr (0, [.ref q0, .int (nI n)])), (q0, .inl (T 0, 440, .inl f))]) (wr := []) ⟨hx, hb, hml, hown, hts⟩ (c_X5_readOr_w l D T g s.heap.size hl9 lo ra d0 b0 t0 r0 rd fr fq rf rn B0 hd0 (rd i) q0 f n b (hb9) k hk hw) (cwV 2 hts gX5_plain_X5_readOrRefuse rfl rfl rfl (by decide +kernel) ⟨Nat.le_of_ble_eq_true rfl, Nat.le_of_ble_eq_true rfl⟩) (va_recv hK hP (ci := 2) (q0 := 0) rfl rfl) hP hD hK hG hS hA [0, 1, 2, 3, 4, 5, 6] [] rfl (by decide) rfl (by decide) (by decide) ⟨Nat.le_of_ble_eq_true rfl, Nat.le_of_ble_eq_true rfl⟩ rfl hl.1 (Nat.le_of_ble_eq_true rfl) dX5_plain_16 rfl ht hlocks (fun u t hal hq5 hP hD hFF => ?_) (Nat.le_of_ble_eq_true rfl) (Nat.le_of_ble_eq_true rfl)
  obtain ⟨F2_1, nF2_2, B2_3, hd2_4⟩ := u
  have hP : va_P D cls [(lo, .inr (2, [.ref ra, .ref d0, .ref b0, .ref t0, .ref r0])), (ra, .inl (T 2, 6, .inr (.inr (.inr (.inr (fun j => some (rd j))))))), (r0, .inr (1, [.ref fr, .int B2_3, .int hd2_4])), (fr, .inr (0, [.ref fq, .int (nI nF2_2)])), (fq, .inl (T 0, 440, .inl F2_1)), ((rd i), .inr (0, [.ref q0, .int (nI n)])), (q0, .inl (T 0, 440, .inl f))] t.heap := hP
  have hD : va_D A [(lo, .inr (2, [.ref ra, .ref d0, .ref b0, .ref t0, .ref r0])), (ra, .inl (T 2, 6, .inr (.inr (.inr (.inr (fun j => some (rd j))))))), (r0, .inr (1, [.ref fr, .int B2_3, .int hd2_4])), (fr, .inr (0, [.ref fq, .int (nI nF2_2)])), (fq, .inl (T 0, 440, .inl F2_1)), ((rd i), .inr (0, [.ref q0, .int (nI n)])), (q0, .inl (T 0, 440, .inl f))] := hD
  exact ⟨rfl, ⟨(F2_1, nF2_2, B2_3, hd2_4), trivial, hP.sub (ws' := [(lo, .inr (2, [.ref ra, .ref d0, .ref b0, .ref t0, .ref r0])), (ra, .inl (T 2, 6, .inr (.inr (.inr (.inr (fun j => some (rd j))))))), (r0, .inr (1, [.ref fr, .int B2_3, .int hd2_4])), (fr, .inr (0, [.ref fq, .int (nI nF2_2)])), (fq, .inl (T 0, 440, .inl F2_1)), ((rd i), .inr (0, [.ref q0, .int (nI n)])), (q0, .inl (T 0, 440, .inl f))]) [0, 1, 2, 3, 4, 5, 6] rfl, va_K.moved hal hK, hD.sub (ws' := [(lo, .inr (2, [.ref ra, .ref d0, .ref b0, .ref t0, .ref r0])), (ra, .inl (T 2, 6, .inr (.inr (.inr (.inr (fun j => some (rd j))))))), (r0, .inr (1, [.ref fr, .int B2_3, .int hd2_4])), (fr, .inr (0, [.ref fq, .int (nI nF2_2)])), (fq, .inl (T 0, 440, .inl F2_1)), ((rd i), .inr (0, [.ref q0, .int (nI n)])), (q0, .inl (T 0, 440, .inl f))]) [0, 1, 2, 3, 4, 5, 6] (by decide) rfl⟩, hFF⟩
set_option maxHeartbeats 4000000 in
set_option maxRecDepth 100000 in
theorem c_plain_x5 (l : Launch) (D : va_G) (T : Nat → ClassId) (g : Nat → Nat) (sz : Nat) (hl9 : l.stackTraces = false) (lo : Nat) (ra : Nat) (d0 : Nat) (b0 : Nat) (t0 : Nat) (r0 : Nat) (rd : Nat → Nat) (i : Nat) (q0 : Nat) (f : Nat → Int32) (n : Nat) (b : Nat → Nat) (hb9 : RB f n b) (hi : i < 6) (k : Nat) (hk : k < 3) (hw : wroB k n b = false) (hu : untB k n b = true) : TX l yX5_plain wsX5_plain ({ frames := 7, cells := 1, slots := 6, locals := 116 } : Room) D T g [.ref lo, .int (nI i), .int (nI k)] [(lo, .inr (2, [.ref ra, .ref d0, .ref b0, .ref t0, .ref r0])), (ra, .inl (T 2, 6, .inr (.inr (.inr (.inr (fun j => some (rd j))))))), (rd i, .inr (0, [.ref q0, .int (nI n)])), (q0, .inl (T 0, 440, .inl f))] sz "java/lang/UnsupportedOperationException" (fun u : Unit => True) (fun u : Unit => [(lo, .inr (2, [.ref ra, .ref d0, .ref b0, .ref t0, .ref r0])), (ra, .inl (T 2, 6, .inr (.inr (.inr (.inr (fun j => some (rd j))))))), (rd i, .inr (0, [.ref q0, .int (nI n)])), (q0, .inl (T 0, 440, .inl f))]) 1 6 := by
  refine vx_ofW (cc := cX5_plain) (maxL := 5) (ret := (some .int)) (by decide) rfl ?_
  intro p e s m args below meth c s₁ B hml ht hv
  obtain ⟨rfl, hsz, hP, hK, hD0, hG⟩ := hv
  have hx := B.exec
  have hb := B.bytes
  have hr := B.returns
  have hts := atoms_spec (ws := wsX5_plain) B.pre
  have hown : s.vm.findClass RX5 = some m.cls := findClass_of_methodNamed B.named
  have hlocks := B.notSynchronized
  subst hsz
  have hD := hD0.self (sz := s.heap.size)
  generalize hAe : va_A [(lo, .inr (2, [.ref ra, .ref d0, .ref b0, .ref t0, .ref r0])), (ra, .inl (T 2, 6, .inr (.inr (.inr (.inr (fun j => some (rd j))))))), (rd i, .inr (0, [.ref q0, .int (nI n)])), (q0, .inl (T 0, 440, .inl f))] s.heap.size = A at hD hG ⊢
  have hA : ∀ q : Nat, s.heap.size ≤ q → A q := fun q h => by rw [← hAe]; exact Or.inr h
  have hS : va_S A s.heap s.heap [] := va_S.rf
  have hP : va_P D cls [(lo, .inr (2, [.ref ra, .ref d0, .ref b0, .ref t0, .ref r0])), (ra, .inl (T 2, 6, .inr (.inr (.inr (.inr (fun j => some (rd j))))))), (rd i, .inr (0, [.ref q0, .int (nI n)])), (q0, .inl (T 0, 440, .inl f))] s.heap := hP
  have hl := lv_entry ([.ref lo, .int (nI i), .int (nI k)]) (n := 5) (Nat.le_of_ble_eq_true rfl)
  rw [lg_entry_eq]
  generalize (lg_sl ([.ref lo, .int (nI i), .int (nI k)]) ++ List.replicate (5 - (lg_sl ([.ref lo, .int (nI i), .int (nI k)])).length) Slot.unset).toArray = ls at hl ⊢
  have hl : lv_has ls 5 [(0, .ref lo), (1, .int (nI i)), (2, .int (nI k))] := hl
  refine lv_aload_n hx hb dX5_plain_0 rfl (lv_at hl 0 rfl) ?_
  refine lv_iload_n hx hb dX5_plain_1 rfl (lv_at hl 1 rfl) ?_
  refine ro_V (As := [.int (nI i)]) (rest := []) (wc := [(lo, .inr (2, [.ref ra, .ref d0, .ref b0, .ref t0, .ref r0])), (ra, .inl (T 2, 6, .inr (.inr (.inr (.inr (fun j => some (rd j)))))))]) (r := .ref (rd i)) ⟨hx, hb, hml, hown, hts⟩ (c_X5_rowAt l D T g lo ra d0 b0 t0 r0 rd i hi) (cwV 1 hts gX5_plain_X5_rowAt rfl rfl rfl (by decide +kernel) ⟨Nat.le_of_ble_eq_true rfl, Nat.le_of_ble_eq_true rfl⟩) (va_recv hK hP (ci := 2) (q0 := 0) rfl rfl) hP hK hG hS [0, 1] rfl ⟨Nat.zero_le _, Nat.zero_le _⟩ rfl hl.1 (Nat.le_of_ble_eq_true rfl) dX5_plain_2 rfl ?_
  refine lv_astore_n (lv' := [(3, .ref (rd i)), (0, .ref lo), (1, .int (nI i)), (2, .int (nI k))]) hx hb dX5_plain_5 rfl hl (by decide) rfl (fun ls hl => ?_)
  refine lv_iload_n hx hb dX5_plain_6 rfl (lv_at hl 3 rfl) ?_
  refine ro_S (As := [.int (nI k)]) (rest := []) (wc := []) (r := .ref (g k)) ⟨hx, hb, hml, hown, hts⟩ (c_X5_kindAt l D T g k hk) (va_cwS 1 hts gX5_plain_X5_kindAt rfl rfl rfl (by decide +kernel) ⟨Nat.le_of_ble_eq_true rfl, Nat.le_of_ble_eq_true rfl⟩) hP hK hG hS [] rfl ⟨Nat.zero_le _, Nat.zero_le _⟩ rfl hl.1 (Nat.le_of_ble_eq_true rfl) dX5_plain_7 rfl ?_
  refine lv_astore (lv' := [(4, .ref (g k)), (3, .ref (rd i)), (0, .ref lo), (1, .int (nI i)), (2, .int (nI k))]) hx hb dX5_plain_10 hl (by decide) rfl (fun ls hl => ?_)
  refine lv_aload_n hx hb dX5_plain_12 rfl (lv_at hl 2 rfl) ?_
  refine lv_aload_n hx hb dX5_plain_13 rfl (lv_at hl 1 rfl) ?_
  refine lv_aload hx hb dX5_plain_14 (lv_at hl 0 rfl) ?_
  refine tx_V (As := [.ref (rd i), .ref (g k)]) (rest := []) (wc := [(lo, .inr (2, [.ref ra, .ref d0, .ref b0, .ref t0, .ref r0])), (ra, .inl (T 2, 6, .inr (.inr (.inr (.inr (fun j => some (rd j))))))), (rd i, .inr (0, [.ref q0, .int (nI n)])), (q0, .inl (T 0, 440, .inl f))]) (wr := []) ⟨hx, hb, hml, hown, hts⟩ (c_X5_readOr_u l D T g s.heap.size hl9 lo ra d0 b0 t0 r0 rd (rd i) q0 f n b (hb9) k hk hw hu) (cwV 2 hts gX5_plain_X5_readOrRefuse rfl rfl rfl (by decide +kernel) ⟨Nat.le_of_ble_eq_true rfl, Nat.le_of_ble_eq_true rfl⟩) (va_recv hK hP (ci := 2) (q0 := 0) rfl rfl) hP hD hK hG hS hA [0, 1, 2, 3] [] rfl (by decide) rfl (by decide) (by decide) ⟨Nat.le_of_ble_eq_true rfl, Nat.le_of_ble_eq_true rfl⟩ rfl hl.1 (Nat.le_of_ble_eq_true rfl) dX5_plain_16 rfl ht hlocks (fun u t hal hq1 hP hD hFF => ?_) (Nat.le_of_ble_eq_true rfl) (Nat.le_of_ble_eq_true rfl)
  have hP : va_P D cls [(lo, .inr (2, [.ref ra, .ref d0, .ref b0, .ref t0, .ref r0])), (ra, .inl (T 2, 6, .inr (.inr (.inr (.inr (fun j => some (rd j))))))), ((rd i), .inr (0, [.ref q0, .int (nI n)])), (q0, .inl (T 0, 440, .inl f))] t.heap := hP
  have hD : va_D A [(lo, .inr (2, [.ref ra, .ref d0, .ref b0, .ref t0, .ref r0])), (ra, .inl (T 2, 6, .inr (.inr (.inr (.inr (fun j => some (rd j))))))), ((rd i), .inr (0, [.ref q0, .int (nI n)])), (q0, .inl (T 0, 440, .inl f))] := hD
  exact ⟨rfl, ⟨(), trivial, hP.sub (ws' := [(lo, .inr (2, [.ref ra, .ref d0, .ref b0, .ref t0, .ref r0])), (ra, .inl (T 2, 6, .inr (.inr (.inr (.inr (fun j => some (rd j))))))), ((rd i), .inr (0, [.ref q0, .int (nI n)])), (q0, .inl (T 0, 440, .inl f))]) [0, 1, 2, 3] rfl, va_K.moved hal hK, hD.sub (ws' := [(lo, .inr (2, [.ref ra, .ref d0, .ref b0, .ref t0, .ref r0])), (ra, .inl (T 2, 6, .inr (.inr (.inr (.inr (fun j => some (rd j))))))), ((rd i), .inr (0, [.ref q0, .int (nI n)])), (q0, .inl (T 0, 440, .inl f))]) [0, 1, 2, 3] (by decide) rfl⟩, hFF⟩
set_option maxHeartbeats 4000000 in
set_option maxRecDepth 100000 in
theorem c_plain_x6 (l : Launch) (D : va_G) (T : Nat → ClassId) (g : Nat → Nat) (sz : Nat) (hl9 : l.stackTraces = false) (lo : Nat) (ra : Nat) (d0 : Nat) (b0 : Nat) (t0 : Nat) (r0 : Nat) (rd : Nat → Nat) (fr : Nat) (fq : Nat) (rf : Nat → Int32) (rn : Nat) (B0 : Int32) (hd0 : Int32) (i : Nat) (q0 : Nat) (f : Nat → Int32) (n : Nat) (b : Nat → Nat) (hb9 : RB f n b) (hi : i < 6) (k : Nat) (hk : k < 3) (hw : wroB k n b = false) (hu : untB k n b = false) (L9 : Nat) (hL9 : L9 = lF k n b * 6 / 8) (hn3 : n ≤ 320) (hm : 320 < lnN k L9 1) : TX l yX5_plain wsX5_plain ({ frames := 7, cells := 1, slots := 6, locals := 116 } : Room) D T g [.ref lo, .int (nI i), .int (nI k)] [(lo, .inr (2, [.ref ra, .ref d0, .ref b0, .ref t0, .ref r0])), (ra, .inl (T 2, 6, .inr (.inr (.inr (.inr (fun j => some (rd j))))))), (r0, .inr (1, [.ref fr, .int B0, .int hd0])), (fr, .inr (0, [.ref fq, .int (nI rn)])), (fq, .inl (T 0, 440, .inl rf)), (rd i, .inr (0, [.ref q0, .int (nI n)])), (q0, .inl (T 0, 440, .inl f))] sz "java/lang/IllegalStateException" (fun u : (Nat → Int32) × Int32 × Int32 => True) (fun u : (Nat → Int32) × Int32 × Int32 => [(lo, .inr (2, [.ref ra, .ref d0, .ref b0, .ref t0, .ref r0])), (ra, .inl (T 2, 6, .inr (.inr (.inr (.inr (fun j => some (rd j))))))), (r0, .inr (1, [.ref fr, .int u.2.1, .int u.2.2])), (fr, .inr (0, [.ref fq, .int (nI L9)])), (fq, .inl (T 0, 440, .inl u.1)), (rd i, .inr (0, [.ref q0, .int (nI n)])), (q0, .inl (T 0, 440, .inl f))]) 1 6 := by
  refine vx_ofW (cc := cX5_plain) (maxL := 5) (ret := (some .int)) (by decide) rfl ?_
  intro p e s m args below meth c s₁ B hml ht hv
  obtain ⟨rfl, hsz, hP, hK, hD0, hG⟩ := hv
  have hx := B.exec
  have hb := B.bytes
  have hr := B.returns
  have hts := atoms_spec (ws := wsX5_plain) B.pre
  have hown : s.vm.findClass RX5 = some m.cls := findClass_of_methodNamed B.named
  have hlocks := B.notSynchronized
  have hi_X1 : ∀ w ∈ wsX10, w ∈ wsX5_plain := by decide +kernel
  have hi_X2 : ∀ w ∈ wsX20, w ∈ wsX5_plain := by decide +kernel
  have hi_X5 : ∀ w ∈ wsX50, w ∈ wsX5_plain := by decide +kernel
  subst hsz
  have hD := hD0.self (sz := s.heap.size)
  generalize hAe : va_A [(lo, .inr (2, [.ref ra, .ref d0, .ref b0, .ref t0, .ref r0])), (ra, .inl (T 2, 6, .inr (.inr (.inr (.inr (fun j => some (rd j))))))), (r0, .inr (1, [.ref fr, .int B0, .int hd0])), (fr, .inr (0, [.ref fq, .int (nI rn)])), (fq, .inl (T 0, 440, .inl rf)), (rd i, .inr (0, [.ref q0, .int (nI n)])), (q0, .inl (T 0, 440, .inl f))] s.heap.size = A at hD hG ⊢
  have hA : ∀ q : Nat, s.heap.size ≤ q → A q := fun q h => by rw [← hAe]; exact Or.inr h
  have hS : va_S A s.heap s.heap [] := va_S.rf
  have hP : va_P D cls [(lo, .inr (2, [.ref ra, .ref d0, .ref b0, .ref t0, .ref r0])), (ra, .inl (T 2, 6, .inr (.inr (.inr (.inr (fun j => some (rd j))))))), (r0, .inr (1, [.ref fr, .int B0, .int hd0])), (fr, .inr (0, [.ref fq, .int (nI rn)])), (fq, .inl (T 0, 440, .inl rf)), (rd i, .inr (0, [.ref q0, .int (nI n)])), (q0, .inl (T 0, 440, .inl f))] s.heap := hP
  have hl := lv_entry ([.ref lo, .int (nI i), .int (nI k)]) (n := 5) (Nat.le_of_ble_eq_true rfl)
  rw [lg_entry_eq]
  generalize (lg_sl ([.ref lo, .int (nI i), .int (nI k)]) ++ List.replicate (5 - (lg_sl ([.ref lo, .int (nI i), .int (nI k)])).length) Slot.unset).toArray = ls at hl ⊢
  have hl : lv_has ls 5 [(0, .ref lo), (1, .int (nI i)), (2, .int (nI k))] := hl
  have hn := hb9.1
  have hz9 := l9_le (k := k) (b := b) hn
  have hle := lnN_le (k := k) (n := L9) (fl := 1) (by omega)
  refine lv_aload_n hx hb dX5_plain_0 rfl (lv_at hl 0 rfl) ?_
  refine lv_iload_n hx hb dX5_plain_1 rfl (lv_at hl 1 rfl) ?_
  refine ro_V (As := [.int (nI i)]) (rest := []) (wc := [(lo, .inr (2, [.ref ra, .ref d0, .ref b0, .ref t0, .ref r0])), (ra, .inl (T 2, 6, .inr (.inr (.inr (.inr (fun j => some (rd j)))))))]) (r := .ref (rd i)) ⟨hx, hb, hml, hown, hts⟩ (c_X5_rowAt l D T g lo ra d0 b0 t0 r0 rd i hi) (cwV 1 hts gX5_plain_X5_rowAt rfl rfl rfl (by decide +kernel) ⟨Nat.le_of_ble_eq_true rfl, Nat.le_of_ble_eq_true rfl⟩) (va_recv hK hP (ci := 2) (q0 := 0) rfl rfl) hP hK hG hS [0, 1] rfl ⟨Nat.zero_le _, Nat.zero_le _⟩ rfl hl.1 (Nat.le_of_ble_eq_true rfl) dX5_plain_2 rfl ?_
  refine lv_astore_n (lv' := [(3, .ref (rd i)), (0, .ref lo), (1, .int (nI i)), (2, .int (nI k))]) hx hb dX5_plain_5 rfl hl (by decide) rfl (fun ls hl => ?_)
  refine lv_iload_n hx hb dX5_plain_6 rfl (lv_at hl 3 rfl) ?_
  refine ro_S (As := [.int (nI k)]) (rest := []) (wc := []) (r := .ref (g k)) ⟨hx, hb, hml, hown, hts⟩ (c_X5_kindAt l D T g k hk) (va_cwS 1 hts gX5_plain_X5_kindAt rfl rfl rfl (by decide +kernel) ⟨Nat.le_of_ble_eq_true rfl, Nat.le_of_ble_eq_true rfl⟩) hP hK hG hS [] rfl ⟨Nat.zero_le _, Nat.zero_le _⟩ rfl hl.1 (Nat.le_of_ble_eq_true rfl) dX5_plain_7 rfl ?_
  refine lv_astore (lv' := [(4, .ref (g k)), (3, .ref (rd i)), (0, .ref lo), (1, .int (nI i)), (2, .int (nI k))]) hx hb dX5_plain_10 hl (by decide) rfl (fun ls hl => ?_)
  refine lv_aload_n hx hb dX5_plain_12 rfl (lv_at hl 2 rfl) ?_
  refine lv_aload_n hx hb dX5_plain_13 rfl (lv_at hl 1 rfl) ?_
  refine lv_aload hx hb dX5_plain_14 (lv_at hl 0 rfl) ?_
  refine mu_V (As := [.ref (rd i), .ref (g k)]) (rest := []) (wc := [(lo, .inr (2, [.ref ra, .ref d0, .ref b0, .ref t0, .ref r0])), (ra, .inl (T 2, 6, .inr (.inr (.inr (.inr (fun j => some (rd j))))))), (r0, .inr (1, [.ref fr, .int B0, .int hd0])), (fr, .inr (0, [.ref fq, .int (nI rn)])), (fq, .inl (T 0, 440, .inl rf)), (rd i, .inr (0, [.ref q0, .int (nI n)])), (q0, .inl (T 0, 440, .inl f))]) (wr := []) ⟨hx, hb, hml, hown, hts⟩ (c_X5_readOr l D T g s.heap.size lo ra d0 b0 t0 r0 rd fr fq rf rn B0 hd0 (rd i) q0 f n b (hb9) k hk hw hu) (cwV 2 hts gX5_plain_X5_readOrRefuse rfl rfl rfl (by decide +kernel) ⟨Nat.le_of_ble_eq_true rfl, Nat.le_of_ble_eq_true rfl⟩) (va_recv hK hP (ci := 2) (q0 := 0) rfl rfl) hP hD hK hG hS hA [0, 1, 2, 3, 4, 5, 6] [] rfl (by decide) rfl (by decide) (by decide) ⟨Nat.le_of_ble_eq_true rfl, Nat.le_of_ble_eq_true rfl⟩ rfl hl.1 (Nat.le_of_ble_eq_true rfl) dX5_plain_16 rfl (fun u H locs hq5 hP hD hS => ?_)
  obtain ⟨F2_1, nF2_2, B2_3, hd2_4⟩ := u
  have hP : va_P D cls [(lo, .inr (2, [.ref ra, .ref d0, .ref b0, .ref t0, .ref r0])), (ra, .inl (T 2, 6, .inr (.inr (.inr (.inr (fun j => some (rd j))))))), (r0, .inr (1, [.ref fr, .int B2_3, .int hd2_4])), (fr, .inr (0, [.ref fq, .int (nI nF2_2)])), (fq, .inl (T 0, 440, .inl F2_1)), ((rd i), .inr (0, [.ref q0, .int (nI n)])), (q0, .inl (T 0, 440, .inl f))] H := hP
  have hD : va_D A [(lo, .inr (2, [.ref ra, .ref d0, .ref b0, .ref t0, .ref r0])), (ra, .inl (T 2, 6, .inr (.inr (.inr (.inr (fun j => some (rd j))))))), (r0, .inr (1, [.ref fr, .int B2_3, .int hd2_4])), (fr, .inr (0, [.ref fq, .int (nI nF2_2)])), (fq, .inl (T 0, 440, .inl F2_1)), ((rd i), .inr (0, [.ref q0, .int (nI n)])), (q0, .inl (T 0, 440, .inl f))] := hD
  have hp1 : nF2_2 = lF k n b * 6 / 8 ∧ RB F2_1 nF2_2 (outB (lwF k n b)) := hq5
  refine W.eq (g2 := F0 m 19 ls []) rfl ?_
  have hRB := hp1.2
  have e9 : nF2_2 = L9 := by rw [hp1.1, hL9]
  rw [e9] at hP hD hRB
  refine lv_aload_n hx hb dX5_plain_19 rfl (lv_at hl 2 rfl) ?_
  refine va_get (D := D) (ci := 2) (v := .ref r0) (C := RX5) (T := TX5) (N := 5) hx hb hts hi_X5 hown hK hP 0 rfl rfl 4 (by decide) (hts _ (List.mem_of_getElem? (i := 1) rfl)) (fun _ h9 => h9) rfl dX5_plain_20 ?_
  refine va_getN (D := D) (ci := 1) (v := .ref fr) (C := RX1) (T := TX1) (N := 3) hx hb hts hi_X1 hown hK hP 2 rfl rfl 0 (by decide) (nx4 hG) (fun _ h9 => h9) rfl dX5_plain_23 ?_
  refine va_getN (D := D) (ci := 0) (v := .int (nI L9)) (C := RX2) (T := TX2) (N := 2) hx hb hts hi_X2 hown hK hP 3 rfl rfl 1 (by decide) (nx0 hG) (fun _ h9 => h9) rfl dX5_plain_26 ?_
  refine lv_aload hx hb dX5_plain_29 (lv_at hl 0 rfl) ?_
  refine lv_iconst (v := (nI 1)) hx hb dX5_plain_31 (by decide +kernel) ?_
  refine ro_S (As := [.int (nI L9), .ref (g k), .int (nI 1)]) (rest := []) (wc := []) (r := .int (nI (lnN k L9 1))) ⟨hx, hb, hml, hown, hts⟩ (c_X4_lengthOf l D T g L9 k 1 hk (by omega)) (va_cwS 3 hts gX5_plain_X4_lengthOf rfl rfl rfl (by decide +kernel) ⟨Nat.le_of_ble_eq_true rfl, Nat.le_of_ble_eq_true rfl⟩) hP hK hG hS [] rfl ⟨Nat.zero_le _, Nat.zero_le _⟩ rfl hl.1 (Nat.le_of_ble_eq_true rfl) dX5_plain_32 rfl ?_
  refine tx_S (As := [.int (nI (lnN k L9 1))]) (rest := []) (wc := []) (wr := [(lo, .inr (2, [.ref ra, .ref d0, .ref b0, .ref t0, .ref r0])), (ra, .inl (T 2, 6, .inr (.inr (.inr (.inr (fun j => some (rd j))))))), (r0, .inr (1, [.ref fr, .int B2_3, .int hd2_4])), (fr, .inr (0, [.ref fq, .int (nI L9)])), (fq, .inl (T 0, 440, .inl F2_1)), ((rd i), .inr (0, [.ref q0, .int (nI n)])), (q0, .inl (T 0, 440, .inl f))]) ⟨hx, hb, hml, hown, hts⟩ (c_X5_checkRoom_x l D T g H.size hl9 (lnN k L9 1) (by omega)) (va_cwS 1 hts gX5_plain_X5_checkRoom rfl rfl rfl (by decide +kernel) ⟨Nat.le_of_ble_eq_true rfl, Nat.le_of_ble_eq_true rfl⟩) hP hD hK hG hS hA [] [0, 1, 2, 3, 4, 5, 6] rfl (by decide) rfl (by decide) (by decide) ⟨Nat.le_of_ble_eq_true rfl, Nat.le_of_ble_eq_true rfl⟩ rfl hl.1 (Nat.le_of_ble_eq_true rfl) dX5_plain_35 rfl ht hlocks (fun u t hal hq6 hP hD hFF => ?_) (Nat.le_of_ble_eq_true rfl) (Nat.le_of_ble_eq_true rfl)
  have hP : va_P D cls [(lo, .inr (2, [.ref ra, .ref d0, .ref b0, .ref t0, .ref r0])), (ra, .inl (T 2, 6, .inr (.inr (.inr (.inr (fun j => some (rd j))))))), (r0, .inr (1, [.ref fr, .int B2_3, .int hd2_4])), (fr, .inr (0, [.ref fq, .int (nI L9)])), (fq, .inl (T 0, 440, .inl F2_1)), ((rd i), .inr (0, [.ref q0, .int (nI n)])), (q0, .inl (T 0, 440, .inl f))] t.heap := hP
  have hD : va_D A [(lo, .inr (2, [.ref ra, .ref d0, .ref b0, .ref t0, .ref r0])), (ra, .inl (T 2, 6, .inr (.inr (.inr (.inr (fun j => some (rd j))))))), (r0, .inr (1, [.ref fr, .int B2_3, .int hd2_4])), (fr, .inr (0, [.ref fq, .int (nI L9)])), (fq, .inl (T 0, 440, .inl F2_1)), ((rd i), .inr (0, [.ref q0, .int (nI n)])), (q0, .inl (T 0, 440, .inl f))] := hD
  exact ⟨rfl, ⟨(F2_1, B2_3, hd2_4), trivial, hP.sub (ws' := [(lo, .inr (2, [.ref ra, .ref d0, .ref b0, .ref t0, .ref r0])), (ra, .inl (T 2, 6, .inr (.inr (.inr (.inr (fun j => some (rd j))))))), (r0, .inr (1, [.ref fr, .int B2_3, .int hd2_4])), (fr, .inr (0, [.ref fq, .int (nI L9)])), (fq, .inl (T 0, 440, .inl F2_1)), ((rd i), .inr (0, [.ref q0, .int (nI n)])), (q0, .inl (T 0, 440, .inl f))]) [0, 1, 2, 3, 4, 5, 6] rfl, va_K.moved hal hK, hD.sub (ws' := [(lo, .inr (2, [.ref ra, .ref d0, .ref b0, .ref t0, .ref r0])), (ra, .inl (T 2, 6, .inr (.inr (.inr (.inr (fun j => some (rd j))))))), (r0, .inr (1, [.ref fr, .int B2_3, .int hd2_4])), (fr, .inr (0, [.ref fq, .int (nI L9)])), (fq, .inl (T 0, 440, .inl F2_1)), ((rd i), .inr (0, [.ref q0, .int (nI n)])), (q0, .inl (T 0, 440, .inl f))]) [0, 1, 2, 3, 4, 5, 6] (by decide) rfl⟩, hFF⟩
set_option maxHeartbeats 4000000 in
set_option maxRecDepth 100000 in
theorem c_plain (l : Launch) (D : va_G) (T : Nat → ClassId) (g : Nat → Nat) (sz : Nat) (lo : Nat) (ra : Nat) (d0 : Nat) (b0 : Nat) (t0 : Nat) (r0 : Nat) (rd : Nat → Nat) (fr : Nat) (fq : Nat) (rf : Nat → Int32) (rn : Nat) (B0 : Int32) (hd0 : Int32) (i : Nat) (q0 : Nat) (f : Nat → Int32) (n : Nat) (b : Nat → Nat) (hb9 : RB f n b) (hi : i < 6) (k : Nat) (hk : k < 3) (hw : wroB k n b = false) (hu : untB k n b = false) (L9 : Nat) (hL9 : L9 = lF k n b * 6 / 8) (hn3 : n ≤ 320) (hm : lnN k L9 1 ≤ 320) : MU l yX5_plain wsX5_plain ({ frames := 5, cells := 0, slots := 0, locals := 116 } : Room) D T g [.ref lo, .int (nI i), .int (nI k)] [(lo, .inr (2, [.ref ra, .ref d0, .ref b0, .ref t0, .ref r0])), (ra, .inl (T 2, 6, .inr (.inr (.inr (.inr (fun j => some (rd j))))))), (r0, .inr (1, [.ref fr, .int B0, .int hd0])), (fr, .inr (0, [.ref fq, .int (nI rn)])), (fq, .inl (T 0, 440, .inl rf)), (rd i, .inr (0, [.ref q0, .int (nI n)])), (q0, .inl (T 0, 440, .inl f))] sz (fun u : (Nat → Int32) × Int32 × Int32 × (Nat → Int32) => some (.int (nI (lnN k L9 1)))) (fun u : (Nat → Int32) × Int32 × Int32 × (Nat → Int32) => RB u.2.2.2 (lnN k L9 1) (wrA k L9 (outB (lwF k n b)))) (fun u : (Nat → Int32) × Int32 × Int32 × (Nat → Int32) => [(lo, .inr (2, [.ref ra, .ref d0, .ref b0, .ref t0, .ref r0])), (ra, .inl (T 2, 6, .inr (.inr (.inr (.inr (fun j => some (rd j))))))), (r0, .inr (1, [.ref fr, .int u.2.1, .int u.2.2.1])), (fr, .inr (0, [.ref fq, .int (nI L9)])), (fq, .inl (T 0, 440, .inl u.1)), (rd i, .inr (0, [.ref q0, .int (nI (lnN k L9 1))])), (q0, .inl (T 0, 440, .inl u.2.2.2))]) 0 0 := by
  refine Met.ofW (cc := cX5_plain) (maxL := 5) (ret := (some .int)) (by decide) rfl ?_
  intro p e s m args below meth c s₁ B hml hv
  obtain ⟨rfl, hsz, hP, hK, hD0, hG⟩ := hv
  have hx := B.exec
  have hb := B.bytes
  have hr := B.returns
  have hts := atoms_spec (ws := wsX5_plain) B.pre
  have hown : s.vm.findClass RX5 = some m.cls := findClass_of_methodNamed B.named
  have hlocks := B.notSynchronized
  have hi_X1 : ∀ w ∈ wsX10, w ∈ wsX5_plain := by decide +kernel
  have hi_X2 : ∀ w ∈ wsX20, w ∈ wsX5_plain := by decide +kernel
  have hi_X5 : ∀ w ∈ wsX50, w ∈ wsX5_plain := by decide +kernel
  subst hsz
  have hD := hD0.self (sz := s.heap.size)
  generalize hAe : va_A [(lo, .inr (2, [.ref ra, .ref d0, .ref b0, .ref t0, .ref r0])), (ra, .inl (T 2, 6, .inr (.inr (.inr (.inr (fun j => some (rd j))))))), (r0, .inr (1, [.ref fr, .int B0, .int hd0])), (fr, .inr (0, [.ref fq, .int (nI rn)])), (fq, .inl (T 0, 440, .inl rf)), (rd i, .inr (0, [.ref q0, .int (nI n)])), (q0, .inl (T 0, 440, .inl f))] s.heap.size = A at hD hG ⊢
  have hA : ∀ q : Nat, s.heap.size ≤ q → A q := fun q h => by rw [← hAe]; exact Or.inr h
  have hS : va_S A s.heap s.heap [] := va_S.rf
  have hP : va_P D cls [(lo, .inr (2, [.ref ra, .ref d0, .ref b0, .ref t0, .ref r0])), (ra, .inl (T 2, 6, .inr (.inr (.inr (.inr (fun j => some (rd j))))))), (r0, .inr (1, [.ref fr, .int B0, .int hd0])), (fr, .inr (0, [.ref fq, .int (nI rn)])), (fq, .inl (T 0, 440, .inl rf)), (rd i, .inr (0, [.ref q0, .int (nI n)])), (q0, .inl (T 0, 440, .inl f))] s.heap := hP
  have hl := lv_entry ([.ref lo, .int (nI i), .int (nI k)]) (n := 5) (Nat.le_of_ble_eq_true rfl)
  rw [lg_entry_eq]
  generalize (lg_sl ([.ref lo, .int (nI i), .int (nI k)]) ++ List.replicate (5 - (lg_sl ([.ref lo, .int (nI i), .int (nI k)])).length) Slot.unset).toArray = ls at hl ⊢
  have hl : lv_has ls 5 [(0, .ref lo), (1, .int (nI i)), (2, .int (nI k))] := hl
  have hn := hb9.1
  have hz9 := l9_le (k := k) (b := b) hn
  have hle := lnN_le (k := k) (n := L9) (fl := 1) (by omega)
  refine lv_aload_n hx hb dX5_plain_0 rfl (lv_at hl 0 rfl) ?_
  refine lv_iload_n hx hb dX5_plain_1 rfl (lv_at hl 1 rfl) ?_
  refine ro_V (As := [.int (nI i)]) (rest := []) (wc := [(lo, .inr (2, [.ref ra, .ref d0, .ref b0, .ref t0, .ref r0])), (ra, .inl (T 2, 6, .inr (.inr (.inr (.inr (fun j => some (rd j)))))))]) (r := .ref (rd i)) ⟨hx, hb, hml, hown, hts⟩ (c_X5_rowAt l D T g lo ra d0 b0 t0 r0 rd i hi) (cwV 1 hts gX5_plain_X5_rowAt rfl rfl rfl (by decide +kernel) ⟨Nat.le_of_ble_eq_true rfl, Nat.le_of_ble_eq_true rfl⟩) (va_recv hK hP (ci := 2) (q0 := 0) rfl rfl) hP hK hG hS [0, 1] rfl ⟨Nat.zero_le _, Nat.zero_le _⟩ rfl hl.1 (Nat.le_of_ble_eq_true rfl) dX5_plain_2 rfl ?_
  refine lv_astore_n (lv' := [(3, .ref (rd i)), (0, .ref lo), (1, .int (nI i)), (2, .int (nI k))]) hx hb dX5_plain_5 rfl hl (by decide) rfl (fun ls hl => ?_)
  refine lv_iload_n hx hb dX5_plain_6 rfl (lv_at hl 3 rfl) ?_
  refine ro_S (As := [.int (nI k)]) (rest := []) (wc := []) (r := .ref (g k)) ⟨hx, hb, hml, hown, hts⟩ (c_X5_kindAt l D T g k hk) (va_cwS 1 hts gX5_plain_X5_kindAt rfl rfl rfl (by decide +kernel) ⟨Nat.le_of_ble_eq_true rfl, Nat.le_of_ble_eq_true rfl⟩) hP hK hG hS [] rfl ⟨Nat.zero_le _, Nat.zero_le _⟩ rfl hl.1 (Nat.le_of_ble_eq_true rfl) dX5_plain_7 rfl ?_
  refine lv_astore (lv' := [(4, .ref (g k)), (3, .ref (rd i)), (0, .ref lo), (1, .int (nI i)), (2, .int (nI k))]) hx hb dX5_plain_10 hl (by decide) rfl (fun ls hl => ?_)
  refine lv_aload_n hx hb dX5_plain_12 rfl (lv_at hl 2 rfl) ?_
  refine lv_aload_n hx hb dX5_plain_13 rfl (lv_at hl 1 rfl) ?_
  refine lv_aload hx hb dX5_plain_14 (lv_at hl 0 rfl) ?_
  refine mu_V (As := [.ref (rd i), .ref (g k)]) (rest := []) (wc := [(lo, .inr (2, [.ref ra, .ref d0, .ref b0, .ref t0, .ref r0])), (ra, .inl (T 2, 6, .inr (.inr (.inr (.inr (fun j => some (rd j))))))), (r0, .inr (1, [.ref fr, .int B0, .int hd0])), (fr, .inr (0, [.ref fq, .int (nI rn)])), (fq, .inl (T 0, 440, .inl rf)), (rd i, .inr (0, [.ref q0, .int (nI n)])), (q0, .inl (T 0, 440, .inl f))]) (wr := []) ⟨hx, hb, hml, hown, hts⟩ (c_X5_readOr l D T g s.heap.size lo ra d0 b0 t0 r0 rd fr fq rf rn B0 hd0 (rd i) q0 f n b (hb9) k hk hw hu) (cwV 2 hts gX5_plain_X5_readOrRefuse rfl rfl rfl (by decide +kernel) ⟨Nat.le_of_ble_eq_true rfl, Nat.le_of_ble_eq_true rfl⟩) (va_recv hK hP (ci := 2) (q0 := 0) rfl rfl) hP hD hK hG hS hA [0, 1, 2, 3, 4, 5, 6] [] rfl (by decide) rfl (by decide) (by decide) ⟨Nat.le_of_ble_eq_true rfl, Nat.le_of_ble_eq_true rfl⟩ rfl hl.1 (Nat.le_of_ble_eq_true rfl) dX5_plain_16 rfl (fun u H locs hq5 hP hD hS => ?_)
  obtain ⟨F2_1, nF2_2, B2_3, hd2_4⟩ := u
  have hP : va_P D cls [(lo, .inr (2, [.ref ra, .ref d0, .ref b0, .ref t0, .ref r0])), (ra, .inl (T 2, 6, .inr (.inr (.inr (.inr (fun j => some (rd j))))))), (r0, .inr (1, [.ref fr, .int B2_3, .int hd2_4])), (fr, .inr (0, [.ref fq, .int (nI nF2_2)])), (fq, .inl (T 0, 440, .inl F2_1)), ((rd i), .inr (0, [.ref q0, .int (nI n)])), (q0, .inl (T 0, 440, .inl f))] H := hP
  have hD : va_D A [(lo, .inr (2, [.ref ra, .ref d0, .ref b0, .ref t0, .ref r0])), (ra, .inl (T 2, 6, .inr (.inr (.inr (.inr (fun j => some (rd j))))))), (r0, .inr (1, [.ref fr, .int B2_3, .int hd2_4])), (fr, .inr (0, [.ref fq, .int (nI nF2_2)])), (fq, .inl (T 0, 440, .inl F2_1)), ((rd i), .inr (0, [.ref q0, .int (nI n)])), (q0, .inl (T 0, 440, .inl f))] := hD
  have hp1 : nF2_2 = lF k n b * 6 / 8 ∧ RB F2_1 nF2_2 (outB (lwF k n b)) := hq5
  refine W.eq (g2 := F0 m 19 ls []) rfl ?_
  have hRB := hp1.2
  have e9 : nF2_2 = L9 := by rw [hp1.1, hL9]
  rw [e9] at hP hD hRB
  refine lv_aload_n hx hb dX5_plain_19 rfl (lv_at hl 2 rfl) ?_
  refine va_get (D := D) (ci := 2) (v := .ref r0) (C := RX5) (T := TX5) (N := 5) hx hb hts hi_X5 hown hK hP 0 rfl rfl 4 (by decide) (hts _ (List.mem_of_getElem? (i := 1) rfl)) (fun _ h9 => h9) rfl dX5_plain_20 ?_
  refine va_getN (D := D) (ci := 1) (v := .ref fr) (C := RX1) (T := TX1) (N := 3) hx hb hts hi_X1 hown hK hP 2 rfl rfl 0 (by decide) (nx4 hG) (fun _ h9 => h9) rfl dX5_plain_23 ?_
  refine va_getN (D := D) (ci := 0) (v := .int (nI L9)) (C := RX2) (T := TX2) (N := 2) hx hb hts hi_X2 hown hK hP 3 rfl rfl 1 (by decide) (nx0 hG) (fun _ h9 => h9) rfl dX5_plain_26 ?_
  refine lv_aload hx hb dX5_plain_29 (lv_at hl 0 rfl) ?_
  refine lv_iconst (v := (nI 1)) hx hb dX5_plain_31 (by decide +kernel) ?_
  refine ro_S (As := [.int (nI L9), .ref (g k), .int (nI 1)]) (rest := []) (wc := []) (r := .int (nI (lnN k L9 1))) ⟨hx, hb, hml, hown, hts⟩ (c_X4_lengthOf l D T g L9 k 1 hk (by omega)) (va_cwS 3 hts gX5_plain_X4_lengthOf rfl rfl rfl (by decide +kernel) ⟨Nat.le_of_ble_eq_true rfl, Nat.le_of_ble_eq_true rfl⟩) hP hK hG hS [] rfl ⟨Nat.zero_le _, Nat.zero_le _⟩ rfl hl.1 (Nat.le_of_ble_eq_true rfl) dX5_plain_32 rfl ?_
  refine rv_S (As := [.int (nI (lnN k L9 1))]) (rest := []) (wc := []) ⟨hx, hb, hml, hown, hts⟩ (c_X5_checkRoom l D T g (lnN k L9 1) (by omega)) (va_cwS 1 hts gX5_plain_X5_checkRoom rfl rfl rfl (by decide +kernel) ⟨Nat.le_of_ble_eq_true rfl, Nat.le_of_ble_eq_true rfl⟩) hP hK hG hS [] rfl ⟨Nat.zero_le _, Nat.zero_le _⟩ rfl hl.1 (Nat.le_of_ble_eq_true rfl) dX5_plain_35 rfl ?_
  refine lv_aload_n hx hb dX5_plain_38 rfl (lv_at hl 2 rfl) ?_
  refine va_get (D := D) (ci := 2) (v := .ref r0) (C := RX5) (T := TX5) (N := 5) hx hb hts hi_X5 hown hK hP 0 rfl rfl 4 (by decide) (hts _ (List.mem_of_getElem? (i := 1) rfl)) (fun _ h9 => h9) rfl dX5_plain_39 ?_
  refine va_getN (D := D) (ci := 1) (v := .ref fr) (C := RX1) (T := TX1) (N := 3) hx hb hts hi_X1 hown hK hP 2 rfl rfl 0 (by decide) (nx4 hG) (fun _ h9 => h9) rfl dX5_plain_42 ?_
  refine lv_aload hx hb dX5_plain_45 (lv_at hl 0 rfl) ?_
  refine lv_iconst (v := (nI 1)) hx hb dX5_plain_47 (by decide +kernel) ?_
  refine lv_aload_n hx hb dX5_plain_48 rfl (lv_at hl 1 rfl) ?_
  refine mu_S (As := [.ref fr, .ref (g k), .int (nI 1), .ref (rd i)]) (rest := []) (wc := [(fr, .inr (0, [.ref fq, .int (nI L9)])), (fq, .inl (T 0, 440, .inl F2_1)), ((rd i), .inr (0, [.ref q0, .int (nI n)])), (q0, .inl (T 0, 440, .inl f))]) (wr := [(lo, .inr (2, [.ref ra, .ref d0, .ref b0, .ref t0, .ref r0])), (ra, .inl (T 2, 6, .inr (.inr (.inr (.inr (fun j => some (rd j))))))), (r0, .inr (1, [.ref fr, .int B2_3, .int hd2_4]))]) ⟨hx, hb, hml, hown, hts⟩ (c_X4_writeBytes l D T g H.size fr fq F2_1 L9 k 1 (rd i) q0 f n (outB (lwF k n b)) (hRB) hk (by omega)) (va_cwS 4 hts gX5_plain_X4_writeBytes rfl rfl rfl (by decide +kernel) ⟨Nat.le_of_ble_eq_true rfl, Nat.le_of_ble_eq_true rfl⟩) hP hD hK hG hS hA [3, 4, 5, 6] [0, 1, 2] rfl (by decide) rfl (by decide) (by decide) ⟨Nat.le_of_ble_eq_true rfl, Nat.le_of_ble_eq_true rfl⟩ rfl hl.1 (Nat.le_of_ble_eq_true rfl) dX5_plain_49 rfl (fun u H locs hq7 hP hD hS => ?_)
  obtain ⟨F_6, hu9⟩ : ∃ z, z = u := ⟨_, rfl⟩
  subst hu9
  have hP : va_P D cls [(lo, .inr (2, [.ref ra, .ref d0, .ref b0, .ref t0, .ref r0])), (ra, .inl (T 2, 6, .inr (.inr (.inr (.inr (fun j => some (rd j))))))), (r0, .inr (1, [.ref fr, .int B2_3, .int hd2_4])), (fr, .inr (0, [.ref fq, .int (nI L9)])), (fq, .inl (T 0, 440, .inl F2_1)), ((rd i), .inr (0, [.ref q0, .int (nI (lnN k L9 1))])), (q0, .inl (T 0, 440, .inl F_6))] H := hP
  have hD : va_D A [(lo, .inr (2, [.ref ra, .ref d0, .ref b0, .ref t0, .ref r0])), (ra, .inl (T 2, 6, .inr (.inr (.inr (.inr (fun j => some (rd j))))))), (r0, .inr (1, [.ref fr, .int B2_3, .int hd2_4])), (fr, .inr (0, [.ref fq, .int (nI L9)])), (fq, .inl (T 0, 440, .inl F2_1)), ((rd i), .inr (0, [.ref q0, .int (nI (lnN k L9 1))])), (q0, .inl (T 0, 440, .inl F_6))] := hD
  have hp2 : RB F_6 (lnN k L9 1) (wrA k L9 (outB (lwF k n b))) := hq7
  refine W.eq (g2 := F0 m 52 ls []) rfl ?_
  refine lv_aload_n hx hb dX5_plain_52 rfl (lv_at hl 1 rfl) ?_
  refine va_getN (D := D) (ci := 0) (v := .int (nI (lnN k L9 1))) (C := RX2) (T := TX2) (N := 2) hx hb hts hi_X2 hown hK hP 5 rfl rfl 1 (by decide) (nx0 hG) (fun _ h9 => h9) rfl dX5_plain_53 ?_
  have hP9 := hP.sub (ws' := [(lo, .inr (2, [.ref ra, .ref d0, .ref b0, .ref t0, .ref r0])), (ra, .inl (T 2, 6, .inr (.inr (.inr (.inr (fun j => some (rd j))))))), (r0, .inr (1, [.ref fr, .int B2_3, .int hd2_4])), (fr, .inr (0, [.ref fq, .int (nI L9)])), (fq, .inl (T 0, 440, .inl F2_1)), ((rd i), .inr (0, [.ref q0, .int (nI (lnN k L9 1))])), (q0, .inl (T 0, 440, .inl F_6))]) [0, 1, 2, 3, 4, 5, 6] rfl
  have hD9 := hD.sub (ws' := [(lo, .inr (2, [.ref ra, .ref d0, .ref b0, .ref t0, .ref r0])), (ra, .inl (T 2, 6, .inr (.inr (.inr (.inr (fun j => some (rd j))))))), (r0, .inr (1, [.ref fr, .int B2_3, .int hd2_4])), (fr, .inr (0, [.ref fq, .int (nI L9)])), (fq, .inl (T 0, 440, .inl F2_1)), ((rd i), .inr (0, [.ref q0, .int (nI (lnN k L9 1))])), (q0, .inl (T 0, 440, .inl F_6))]) [0, 1, 2, 3, 4, 5, 6] (by decide) rfl
  exact W.iret (v := (nI (lnN k L9 1))) hx hb hr (fun t ht hW => ⟨⟨(F2_1, B2_3, hd2_4, F_6), rfl, show RB F_6 (lnN k L9 1) (wrA k L9 (outB (lwF k n b))) from hp2, (by rw [ht]; exact hP9), va_K.moved hW.alike hK, hD9⟩, hS.F ht⟩) hS.2.2 dX5_plain_56
set_option maxHeartbeats 4000000 in
set_option maxRecDepth 100000 in
/-- letterShare: no such row -/
theorem c_letterShare_x1 (l : Launch) (D : va_G) (T : Nat → ClassId) (g : Nat → Nat) (sz : Nat) (hl9 : l.stackTraces = false) (lo : Nat) (ra : Nat) (d0 : Nat) (b0 : Nat) (t0 : Nat) (r0 : Nat) (rd : Nat → Nat) (i : Int32) (hi : i < 0 ∨ ¬ i < nI 6) (x0 : Int32) : TX l yX5_letterShare wsX5_letterShare ({ frames := 7, cells := 1, slots := 6, locals := 111 } : Room) D T g [.ref lo, .int i, .int x0] [(lo, .inr (2, [.ref ra, .ref d0, .ref b0, .ref t0, .ref r0])), (ra, .inl (T 2, 6, .inr (.inr (.inr (.inr (fun j => some (rd j)))))))] sz "java/lang/IndexOutOfBoundsException" (fun u : Unit => True) (fun u : Unit => [(lo, .inr (2, [.ref ra, .ref d0, .ref b0, .ref t0, .ref r0])), (ra, .inl (T 2, 6, .inr (.inr (.inr (.inr (fun j => some (rd j)))))))]) 1 6 := by
  refine vx_ofW (cc := cX5_letterShare) (maxL := 5) (ret := (some .float)) (by decide) rfl ?_
  intro p e s m args below meth c s₁ B hml ht hv
  obtain ⟨rfl, hsz, hP, hK, hD0, hG⟩ := hv
  have hx := B.exec
  have hb := B.bytes
  have hr := B.returns
  have hts := atoms_spec (ws := wsX5_letterShare) B.pre
  have hown : s.vm.findClass RX5 = some m.cls := findClass_of_methodNamed B.named
  have hlocks := B.notSynchronized
  subst hsz
  have hD := hD0.self (sz := s.heap.size)
  generalize hAe : va_A [(lo, .inr (2, [.ref ra, .ref d0, .ref b0, .ref t0, .ref r0])), (ra, .inl (T 2, 6, .inr (.inr (.inr (.inr (fun j => some (rd j)))))))] s.heap.size = A at hD hG ⊢
  have hA : ∀ q : Nat, s.heap.size ≤ q → A q := fun q h => by rw [← hAe]; exact Or.inr h
  have hS : va_S A s.heap s.heap [] := va_S.rf
  have hP : va_P D cls [(lo, .inr (2, [.ref ra, .ref d0, .ref b0, .ref t0, .ref r0])), (ra, .inl (T 2, 6, .inr (.inr (.inr (.inr (fun j => some (rd j)))))))] s.heap := hP
  have hl := lv_entry ([.ref lo, .int i, .int x0]) (n := 5) (Nat.le_of_ble_eq_true rfl)
  rw [lg_entry_eq]
  generalize (lg_sl ([.ref lo, .int i, .int x0]) ++ List.replicate (5 - (lg_sl ([.ref lo, .int i, .int x0])).length) Slot.unset).toArray = ls at hl ⊢
  have hl : lv_has ls 5 [(0, .ref lo), (1, .int i), (2, .int x0)] := hl
  refine lv_aload_n hx hb dX5_letterShare_0 rfl (lv_at hl 0 rfl) ?_
  refine lv_iload_n hx hb dX5_letterShare_1 rfl (lv_at hl 1 rfl) ?_
  refine tx_V (As := [.int i]) (rest := []) (wc := [(lo, .inr (2, [.ref ra, .ref d0, .ref b0, .ref t0, .ref r0])), (ra, .inl (T 2, 6, .inr (.inr (.inr (.inr (fun j => some (rd j)))))))]) (wr := []) ⟨hx, hb, hml, hown, hts⟩ (c_X5_rowAt_x l D T g s.heap.size hl9 lo ra d0 b0 t0 r0 rd i hi) (cwV 1 hts gX5_letterShare_X5_rowAt rfl rfl rfl (by decide +kernel) ⟨Nat.le_of_ble_eq_true rfl, Nat.le_of_ble_eq_true rfl⟩) (va_recv hK hP (ci := 2) (q0 := 0) rfl rfl) hP hD hK hG hS hA [0, 1] [] rfl (by decide) rfl (by decide) (by decide) ⟨Nat.le_of_ble_eq_true rfl, Nat.le_of_ble_eq_true rfl⟩ rfl hl.1 (Nat.le_of_ble_eq_true rfl) dX5_letterShare_2 rfl ht hlocks (fun u t hal hq1 hP hD hFF => ?_) (Nat.le_of_ble_eq_true rfl) (Nat.le_of_ble_eq_true rfl)
  have hP : va_P D cls [(lo, .inr (2, [.ref ra, .ref d0, .ref b0, .ref t0, .ref r0])), (ra, .inl (T 2, 6, .inr (.inr (.inr (.inr (fun j => some (rd j)))))))] t.heap := hP
  have hD : va_D A [(lo, .inr (2, [.ref ra, .ref d0, .ref b0, .ref t0, .ref r0])), (ra, .inl (T 2, 6, .inr (.inr (.inr (.inr (fun j => some (rd j)))))))] := hD
  exact ⟨rfl, ⟨(), trivial, hP.sub (ws' := [(lo, .inr (2, [.ref ra, .ref d0, .ref b0, .ref t0, .ref r0])), (ra, .inl (T 2, 6, .inr (.inr (.inr (.inr (fun j => some (rd j)))))))]) [0, 1] rfl, va_K.moved hal hK, hD.sub (ws' := [(lo, .inr (2, [.ref ra, .ref d0, .ref b0, .ref t0, .ref r0])), (ra, .inl (T 2, 6, .inr (.inr (.inr (.inr (fun j => some (rd j)))))))]) [0, 1] (by decide) rfl⟩, hFF⟩
set_option maxHeartbeats 4000000 in
set_option maxRecDepth 100000 in
theorem c_letterShare_x2 (l : Launch) (D : va_G) (T : Nat → ClassId) (g : Nat → Nat) (sz : Nat) (hl9 : l.stackTraces = false) (lo : Nat) (ra : Nat) (d0 : Nat) (b0 : Nat) (t0 : Nat) (r0 : Nat) (rd : Nat → Nat) (i : Nat) (q0 : Nat) (f : Nat → Int32) (n : Nat) (hi : i < 6) (k : Int32) (hk : k < 0 ∨ ¬ k < nI 3) : TX l yX5_letterShare wsX5_letterShare ({ frames := 7, cells := 1, slots := 6, locals := 110 } : Room) D T g [.ref lo, .int (nI i), .int k] [(lo, .inr (2, [.ref ra, .ref d0, .ref b0, .ref t0, .ref r0])), (ra, .inl (T 2, 6, .inr (.inr (.inr (.inr (fun j => some (rd j))))))), (rd i, .inr (0, [.ref q0, .int (nI n)])), (q0, .inl (T 0, 440, .inl f))] sz "java/lang/IllegalArgumentException" (fun u : Unit => True) (fun u : Unit => [(lo, .inr (2, [.ref ra, .ref d0, .ref b0, .ref t0, .ref r0])), (ra, .inl (T 2, 6, .inr (.inr (.inr (.inr (fun j => some (rd j))))))), (rd i, .inr (0, [.ref q0, .int (nI n)])), (q0, .inl (T 0, 440, .inl f))]) 1 6 := by
  refine vx_ofW (cc := cX5_letterShare) (maxL := 5) (ret := (some .float)) (by decide) rfl ?_
  intro p e s m args below meth c s₁ B hml ht hv
  obtain ⟨rfl, hsz, hP, hK, hD0, hG⟩ := hv
  have hx := B.exec
  have hb := B.bytes
  have hr := B.returns
  have hts := atoms_spec (ws := wsX5_letterShare) B.pre
  have hown : s.vm.findClass RX5 = some m.cls := findClass_of_methodNamed B.named
  have hlocks := B.notSynchronized
  subst hsz
  have hD := hD0.self (sz := s.heap.size)
  generalize hAe : va_A [(lo, .inr (2, [.ref ra, .ref d0, .ref b0, .ref t0, .ref r0])), (ra, .inl (T 2, 6, .inr (.inr (.inr (.inr (fun j => some (rd j))))))), (rd i, .inr (0, [.ref q0, .int (nI n)])), (q0, .inl (T 0, 440, .inl f))] s.heap.size = A at hD hG ⊢
  have hA : ∀ q : Nat, s.heap.size ≤ q → A q := fun q h => by rw [← hAe]; exact Or.inr h
  have hS : va_S A s.heap s.heap [] := va_S.rf
  have hP : va_P D cls [(lo, .inr (2, [.ref ra, .ref d0, .ref b0, .ref t0, .ref r0])), (ra, .inl (T 2, 6, .inr (.inr (.inr (.inr (fun j => some (rd j))))))), (rd i, .inr (0, [.ref q0, .int (nI n)])), (q0, .inl (T 0, 440, .inl f))] s.heap := hP
  have hl := lv_entry ([.ref lo, .int (nI i), .int k]) (n := 5) (Nat.le_of_ble_eq_true rfl)
  rw [lg_entry_eq]
  generalize (lg_sl ([.ref lo, .int (nI i), .int k]) ++ List.replicate (5 - (lg_sl ([.ref lo, .int (nI i), .int k])).length) Slot.unset).toArray = ls at hl ⊢
  have hl : lv_has ls 5 [(0, .ref lo), (1, .int (nI i)), (2, .int k)] := hl
  refine lv_aload_n hx hb dX5_letterShare_0 rfl (lv_at hl 0 rfl) ?_
  refine lv_iload_n hx hb dX5_letterShare_1 rfl (lv_at hl 1 rfl) ?_
  refine ro_V (As := [.int (nI i)]) (rest := []) (wc := [(lo, .inr (2, [.ref ra, .ref d0, .ref b0, .ref t0, .ref r0])), (ra, .inl (T 2, 6, .inr (.inr (.inr (.inr (fun j => some (rd j)))))))]) (r := .ref (rd i)) ⟨hx, hb, hml, hown, hts⟩ (c_X5_rowAt l D T g lo ra d0 b0 t0 r0 rd i hi) (cwV 1 hts gX5_letterShare_X5_rowAt rfl rfl rfl (by decide +kernel) ⟨Nat.le_of_ble_eq_true rfl, Nat.le_of_ble_eq_true rfl⟩) (va_recv hK hP (ci := 2) (q0 := 0) rfl rfl) hP hK hG hS [0, 1] rfl ⟨Nat.zero_le _, Nat.zero_le _⟩ rfl hl.1 (Nat.le_of_ble_eq_true rfl) dX5_letterShare_2 rfl ?_
  refine lv_astore_n (lv' := [(3, .ref (rd i)), (0, .ref lo), (1, .int (nI i)), (2, .int k)]) hx hb dX5_letterShare_5 rfl hl (by decide) rfl (fun ls hl => ?_)
  refine lv_iload_n hx hb dX5_letterShare_6 rfl (lv_at hl 3 rfl) ?_
  refine tx_S (As := [.int k]) (rest := []) (wc := []) (wr := [(lo, .inr (2, [.ref ra, .ref d0, .ref b0, .ref t0, .ref r0])), (ra, .inl (T 2, 6, .inr (.inr (.inr (.inr (fun j => some (rd j))))))), (rd i, .inr (0, [.ref q0, .int (nI n)])), (q0, .inl (T 0, 440, .inl f))]) ⟨hx, hb, hml, hown, hts⟩ (c_X5_kindAt_x l D T g s.heap.size hl9 k hk) (va_cwS 1 hts gX5_letterShare_X5_kindAt rfl rfl rfl (by decide +kernel) ⟨Nat.le_of_ble_eq_true rfl, Nat.le_of_ble_eq_true rfl⟩) hP hD hK hG hS hA [] [0, 1, 2, 3] rfl (by decide) rfl (by decide) (by decide) ⟨Nat.le_of_ble_eq_true rfl, Nat.le_of_ble_eq_true rfl⟩ rfl hl.1 (Nat.le_of_ble_eq_true rfl) dX5_letterShare_7 rfl ht hlocks (fun u t hal hq1 hP hD hFF => ?_) (Nat.le_of_ble_eq_true rfl) (Nat.le_of_ble_eq_true rfl)
  have hP : va_P D cls [(lo, .inr (2, [.ref ra, .ref d0, .ref b0, .ref t0, .ref r0])), (ra, .inl (T 2, 6, .inr (.inr (.inr (.inr (fun j => some (rd j))))))), (rd i, .inr (0, [.ref q0, .int (nI n)])), (q0, .inl (T 0, 440, .inl f))] t.heap := hP
  have hD : va_D A [(lo, .inr (2, [.ref ra, .ref d0, .ref b0, .ref t0, .ref r0])), (ra, .inl (T 2, 6, .inr (.inr (.inr (.inr (fun j => some (rd j))))))), (rd i, .inr (0, [.ref q0, .int (nI n)])), (q0, .inl (T 0, 440, .inl f))] := hD
  exact ⟨rfl, ⟨(), trivial, hP.sub (ws' := [(lo, .inr (2, [.ref ra, .ref d0, .ref b0, .ref t0, .ref r0])), (ra, .inl (T 2, 6, .inr (.inr (.inr (.inr (fun j => some (rd j))))))), (rd i, .inr (0, [.ref q0, .int (nI n)])), (q0, .inl (T 0, 440, .inl f))]) [0, 1, 2, 3] rfl, va_K.moved hal hK, hD.sub (ws' := [(lo, .inr (2, [.ref ra, .ref d0, .ref b0, .ref t0, .ref r0])), (ra, .inl (T 2, 6, .inr (.inr (.inr (.inr (fun j => some (rd j))))))), (rd i, .inr (0, [.ref q0, .int (nI n)])), (q0, .inl (T 0, 440, .inl f))]) [0, 1, 2, 3] (by decide) rfl⟩, hFF⟩
set_option maxHeartbeats 4000000 in
set_option maxRecDepth 100000 in
theorem c_letterShare_x3 (l : Launch) (D : va_G) (T : Nat → ClassId) (g : Nat → Nat) (sz : Nat) (hl9 : l.stackTraces = false) (lo : Nat) (ra : Nat) (d0 : Nat) (b0 : Nat) (t0 : Nat) (r0 : Nat) (rd : Nat → Nat) (i : Nat) (q0 : Nat) (f : Nat → Int32) (n : Nat) (hi : i < 6) (k : Nat) (hk : k < 3) (hn : n = 0) : TX l yX5_letterShare wsX5_letterShare ({ frames := 7, cells := 1, slots := 6, locals := 110 } : Room) D T g [.ref lo, .int (nI i), .int (nI k)] [(lo, .inr (2, [.ref ra, .ref d0, .ref b0, .ref t0, .ref r0])), (ra, .inl (T 2, 6, .inr (.inr (.inr (.inr (fun j => some (rd j))))))), (rd i, .inr (0, [.ref q0, .int (nI n)])), (q0, .inl (T 0, 440, .inl f))] sz "java/lang/ArithmeticException" (fun u : Unit => True) (fun u : Unit => [(lo, .inr (2, [.ref ra, .ref d0, .ref b0, .ref t0, .ref r0])), (ra, .inl (T 2, 6, .inr (.inr (.inr (.inr (fun j => some (rd j))))))), (rd i, .inr (0, [.ref q0, .int (nI n)])), (q0, .inl (T 0, 440, .inl f))]) 1 6 := by
  refine vx_ofW (cc := cX5_letterShare) (maxL := 5) (ret := (some .float)) (by decide) rfl ?_
  intro p e s m args below meth c s₁ B hml ht hv
  obtain ⟨rfl, hsz, hP, hK, hD0, hG⟩ := hv
  have hx := B.exec
  have hb := B.bytes
  have hr := B.returns
  have hts := atoms_spec (ws := wsX5_letterShare) B.pre
  have hown : s.vm.findClass RX5 = some m.cls := findClass_of_methodNamed B.named
  have hlocks := B.notSynchronized
  subst hsz
  have hD := hD0.self (sz := s.heap.size)
  generalize hAe : va_A [(lo, .inr (2, [.ref ra, .ref d0, .ref b0, .ref t0, .ref r0])), (ra, .inl (T 2, 6, .inr (.inr (.inr (.inr (fun j => some (rd j))))))), (rd i, .inr (0, [.ref q0, .int (nI n)])), (q0, .inl (T 0, 440, .inl f))] s.heap.size = A at hD hG ⊢
  have hA : ∀ q : Nat, s.heap.size ≤ q → A q := fun q h => by rw [← hAe]; exact Or.inr h
  have hS : va_S A s.heap s.heap [] := va_S.rf
  have hP : va_P D cls [(lo, .inr (2, [.ref ra, .ref d0, .ref b0, .ref t0, .ref r0])), (ra, .inl (T 2, 6, .inr (.inr (.inr (.inr (fun j => some (rd j))))))), (rd i, .inr (0, [.ref q0, .int (nI n)])), (q0, .inl (T 0, 440, .inl f))] s.heap := hP
  have hl := lv_entry ([.ref lo, .int (nI i), .int (nI k)]) (n := 5) (Nat.le_of_ble_eq_true rfl)
  rw [lg_entry_eq]
  generalize (lg_sl ([.ref lo, .int (nI i), .int (nI k)]) ++ List.replicate (5 - (lg_sl ([.ref lo, .int (nI i), .int (nI k)])).length) Slot.unset).toArray = ls at hl ⊢
  have hl : lv_has ls 5 [(0, .ref lo), (1, .int (nI i)), (2, .int (nI k))] := hl
  refine lv_aload_n hx hb dX5_letterShare_0 rfl (lv_at hl 0 rfl) ?_
  refine lv_iload_n hx hb dX5_letterShare_1 rfl (lv_at hl 1 rfl) ?_
  refine ro_V (As := [.int (nI i)]) (rest := []) (wc := [(lo, .inr (2, [.ref ra, .ref d0, .ref b0, .ref t0, .ref r0])), (ra, .inl (T 2, 6, .inr (.inr (.inr (.inr (fun j => some (rd j)))))))]) (r := .ref (rd i)) ⟨hx, hb, hml, hown, hts⟩ (c_X5_rowAt l D T g lo ra d0 b0 t0 r0 rd i hi) (cwV 1 hts gX5_letterShare_X5_rowAt rfl rfl rfl (by decide +kernel) ⟨Nat.le_of_ble_eq_true rfl, Nat.le_of_ble_eq_true rfl⟩) (va_recv hK hP (ci := 2) (q0 := 0) rfl rfl) hP hK hG hS [0, 1] rfl ⟨Nat.zero_le _, Nat.zero_le _⟩ rfl hl.1 (Nat.le_of_ble_eq_true rfl) dX5_letterShare_2 rfl ?_
  refine lv_astore_n (lv' := [(3, .ref (rd i)), (0, .ref lo), (1, .int (nI i)), (2, .int (nI k))]) hx hb dX5_letterShare_5 rfl hl (by decide) rfl (fun ls hl => ?_)
  refine lv_iload_n hx hb dX5_letterShare_6 rfl (lv_at hl 3 rfl) ?_
  refine ro_S (As := [.int (nI k)]) (rest := []) (wc := []) (r := .ref (g k)) ⟨hx, hb, hml, hown, hts⟩ (c_X5_kindAt l D T g k hk) (va_cwS 1 hts gX5_letterShare_X5_kindAt rfl rfl rfl (by decide +kernel) ⟨Nat.le_of_ble_eq_true rfl, Nat.le_of_ble_eq_true rfl⟩) hP hK hG hS [] rfl ⟨Nat.zero_le _, Nat.zero_le _⟩ rfl hl.1 (Nat.le_of_ble_eq_true rfl) dX5_letterShare_7 rfl ?_
  refine lv_astore (lv' := [(4, .ref (g k)), (3, .ref (rd i)), (0, .ref lo), (1, .int (nI i)), (2, .int (nI k))]) hx hb dX5_letterShare_10 hl (by decide) rfl (fun ls hl => ?_)
  refine lv_aload_n hx hb dX5_letterShare_12 rfl (lv_at hl 1 rfl) ?_
  refine tx_S (As := [.ref (rd i)]) (rest := []) (wc := [(rd i, .inr (0, [.ref q0, .int (nI n)])), (q0, .inl (T 0, 440, .inl f))]) (wr := [(lo, .inr (2, [.ref ra, .ref d0, .ref b0, .ref t0, .ref r0])), (ra, .inl (T 2, 6, .inr (.inr (.inr (.inr (fun j => some (rd j)))))))]) ⟨hx, hb, hml, hown, hts⟩ (c_X5_checkNotEmpty_x l D T g s.heap.size hl9 (rd i) q0 f n hn) (va_cwS 1 hts gX5_letterShare_X5_checkNotEmpty rfl rfl rfl (by decide +kernel) ⟨Nat.le_of_ble_eq_true rfl, Nat.le_of_ble_eq_true rfl⟩) hP hD hK hG hS hA [2, 3] [0, 1] rfl (by decide) rfl (by decide) (by decide) ⟨Nat.le_of_ble_eq_true rfl, Nat.le_of_ble_eq_true rfl⟩ rfl hl.1 (Nat.le_of_ble_eq_true rfl) dX5_letterShare_13 rfl ht hlocks (fun u t hal hq1 hP hD hFF => ?_) (Nat.le_of_ble_eq_true rfl) (Nat.le_of_ble_eq_true rfl)
  have hP : va_P D cls [(lo, .inr (2, [.ref ra, .ref d0, .ref b0, .ref t0, .ref r0])), (ra, .inl (T 2, 6, .inr (.inr (.inr (.inr (fun j => some (rd j))))))), ((rd i), .inr (0, [.ref q0, .int (nI n)])), (q0, .inl (T 0, 440, .inl f))] t.heap := hP
  have hD : va_D A [(lo, .inr (2, [.ref ra, .ref d0, .ref b0, .ref t0, .ref r0])), (ra, .inl (T 2, 6, .inr (.inr (.inr (.inr (fun j => some (rd j))))))), ((rd i), .inr (0, [.ref q0, .int (nI n)])), (q0, .inl (T 0, 440, .inl f))] := hD
  exact ⟨rfl, ⟨(), trivial, hP.sub (ws' := [(lo, .inr (2, [.ref ra, .ref d0, .ref b0, .ref t0, .ref r0])), (ra, .inl (T 2, 6, .inr (.inr (.inr (.inr (fun j => some (rd j))))))), ((rd i), .inr (0, [.ref q0, .int (nI n)])), (q0, .inl (T 0, 440, .inl f))]) [0, 1, 2, 3] rfl, va_K.moved hal hK, hD.sub (ws' := [(lo, .inr (2, [.ref ra, .ref d0, .ref b0, .ref t0, .ref r0])), (ra, .inl (T 2, 6, .inr (.inr (.inr (.inr (fun j => some (rd j))))))), ((rd i), .inr (0, [.ref q0, .int (nI n)])), (q0, .inl (T 0, 440, .inl f))]) [0, 1, 2, 3] (by decide) rfl⟩, hFF⟩
set_option maxHeartbeats 4000000 in
set_option maxRecDepth 100000 in
/-- growth: no such row -/
theorem c_growth_x1 (l : Launch) (D : va_G) (T : Nat → ClassId) (g : Nat → Nat) (sz : Nat) (hl9 : l.stackTraces = false) (lo : Nat) (ra : Nat) (d0 : Nat) (b0 : Nat) (t0 : Nat) (r0 : Nat) (rd : Nat → Nat) (i : Int32) (hi : i < 0 ∨ ¬ i < nI 6) (x0 : Int32) : TX l yX5_growth wsX5_growth ({ frames := 7, cells := 1, slots := 6, locals := 111 } : Room) D T g [.ref lo, .int i, .int x0] [(lo, .inr (2, [.ref ra, .ref d0, .ref b0, .ref t0, .ref r0])), (ra, .inl (T 2, 6, .inr (.inr (.inr (.inr (fun j => some (rd j)))))))] sz "java/lang/IndexOutOfBoundsException" (fun u : Unit => True) (fun u : Unit => [(lo, .inr (2, [.ref ra, .ref d0, .ref b0, .ref t0, .ref r0])), (ra, .inl (T 2, 6, .inr (.inr (.inr (.inr (fun j => some (rd j)))))))]) 1 6 := by
  refine vx_ofW (cc := cX5_growth) (maxL := 5) (ret := (some .double)) (by decide) rfl ?_
  intro p e s m args below meth c s₁ B hml ht hv
  obtain ⟨rfl, hsz, hP, hK, hD0, hG⟩ := hv
  have hx := B.exec
  have hb := B.bytes
  have hr := B.returns
  have hts := atoms_spec (ws := wsX5_growth) B.pre
  have hown : s.vm.findClass RX5 = some m.cls := findClass_of_methodNamed B.named
  have hlocks := B.notSynchronized
  subst hsz
  have hD := hD0.self (sz := s.heap.size)
  generalize hAe : va_A [(lo, .inr (2, [.ref ra, .ref d0, .ref b0, .ref t0, .ref r0])), (ra, .inl (T 2, 6, .inr (.inr (.inr (.inr (fun j => some (rd j)))))))] s.heap.size = A at hD hG ⊢
  have hA : ∀ q : Nat, s.heap.size ≤ q → A q := fun q h => by rw [← hAe]; exact Or.inr h
  have hS : va_S A s.heap s.heap [] := va_S.rf
  have hP : va_P D cls [(lo, .inr (2, [.ref ra, .ref d0, .ref b0, .ref t0, .ref r0])), (ra, .inl (T 2, 6, .inr (.inr (.inr (.inr (fun j => some (rd j)))))))] s.heap := hP
  have hl := lv_entry ([.ref lo, .int i, .int x0]) (n := 5) (Nat.le_of_ble_eq_true rfl)
  rw [lg_entry_eq]
  generalize (lg_sl ([.ref lo, .int i, .int x0]) ++ List.replicate (5 - (lg_sl ([.ref lo, .int i, .int x0])).length) Slot.unset).toArray = ls at hl ⊢
  have hl : lv_has ls 5 [(0, .ref lo), (1, .int i), (2, .int x0)] := hl
  refine lv_aload_n hx hb dX5_growth_0 rfl (lv_at hl 0 rfl) ?_
  refine lv_iload_n hx hb dX5_growth_1 rfl (lv_at hl 1 rfl) ?_
  refine tx_V (As := [.int i]) (rest := []) (wc := [(lo, .inr (2, [.ref ra, .ref d0, .ref b0, .ref t0, .ref r0])), (ra, .inl (T 2, 6, .inr (.inr (.inr (.inr (fun j => some (rd j)))))))]) (wr := []) ⟨hx, hb, hml, hown, hts⟩ (c_X5_rowAt_x l D T g s.heap.size hl9 lo ra d0 b0 t0 r0 rd i hi) (cwV 1 hts gX5_growth_X5_rowAt rfl rfl rfl (by decide +kernel) ⟨Nat.le_of_ble_eq_true rfl, Nat.le_of_ble_eq_true rfl⟩) (va_recv hK hP (ci := 2) (q0 := 0) rfl rfl) hP hD hK hG hS hA [0, 1] [] rfl (by decide) rfl (by decide) (by decide) ⟨Nat.le_of_ble_eq_true rfl, Nat.le_of_ble_eq_true rfl⟩ rfl hl.1 (Nat.le_of_ble_eq_true rfl) dX5_growth_2 rfl ht hlocks (fun u t hal hq1 hP hD hFF => ?_) (Nat.le_of_ble_eq_true rfl) (Nat.le_of_ble_eq_true rfl)
  have hP : va_P D cls [(lo, .inr (2, [.ref ra, .ref d0, .ref b0, .ref t0, .ref r0])), (ra, .inl (T 2, 6, .inr (.inr (.inr (.inr (fun j => some (rd j)))))))] t.heap := hP
  have hD : va_D A [(lo, .inr (2, [.ref ra, .ref d0, .ref b0, .ref t0, .ref r0])), (ra, .inl (T 2, 6, .inr (.inr (.inr (.inr (fun j => some (rd j)))))))] := hD
  exact ⟨rfl, ⟨(), trivial, hP.sub (ws' := [(lo, .inr (2, [.ref ra, .ref d0, .ref b0, .ref t0, .ref r0])), (ra, .inl (T 2, 6, .inr (.inr (.inr (.inr (fun j => some (rd j)))))))]) [0, 1] rfl, va_K.moved hal hK, hD.sub (ws' := [(lo, .inr (2, [.ref ra, .ref d0, .ref b0, .ref t0, .ref r0])), (ra, .inl (T 2, 6, .inr (.inr (.inr (.inr (fun j => some (rd j)))))))]) [0, 1] (by decide) rfl⟩, hFF⟩
set_option maxHeartbeats 4000000 in
set_option maxRecDepth 100000 in
theorem c_growth_x2 (l : Launch) (D : va_G) (T : Nat → ClassId) (g : Nat → Nat) (sz : Nat) (hl9 : l.stackTraces = false) (lo : Nat) (ra : Nat) (d0 : Nat) (b0 : Nat) (t0 : Nat) (r0 : Nat) (rd : Nat → Nat) (i : Nat) (q0 : Nat) (f : Nat → Int32) (n : Nat) (hi : i < 6) (k : Int32) (hk : k < 0 ∨ ¬ k < nI 3) : TX l yX5_growth wsX5_growth ({ frames := 7, cells := 1, slots := 6, locals := 110 } : Room) D T g [.ref lo, .int (nI i), .int k] [(lo, .inr (2, [.ref ra, .ref d0, .ref b0, .ref t0, .ref r0])), (ra, .inl (T 2, 6, .inr (.inr (.inr (.inr (fun j => some (rd j))))))), (rd i, .inr (0, [.ref q0, .int (nI n)])), (q0, .inl (T 0, 440, .inl f))] sz "java/lang/IllegalArgumentException" (fun u : Unit => True) (fun u : Unit => [(lo, .inr (2, [.ref ra, .ref d0, .ref b0, .ref t0, .ref r0])), (ra, .inl (T 2, 6, .inr (.inr (.inr (.inr (fun j => some (rd j))))))), (rd i, .inr (0, [.ref q0, .int (nI n)])), (q0, .inl (T 0, 440, .inl f))]) 1 6 := by
  refine vx_ofW (cc := cX5_growth) (maxL := 5) (ret := (some .double)) (by decide) rfl ?_
  intro p e s m args below meth c s₁ B hml ht hv
  obtain ⟨rfl, hsz, hP, hK, hD0, hG⟩ := hv
  have hx := B.exec
  have hb := B.bytes
  have hr := B.returns
  have hts := atoms_spec (ws := wsX5_growth) B.pre
  have hown : s.vm.findClass RX5 = some m.cls := findClass_of_methodNamed B.named
  have hlocks := B.notSynchronized
  subst hsz
  have hD := hD0.self (sz := s.heap.size)
  generalize hAe : va_A [(lo, .inr (2, [.ref ra, .ref d0, .ref b0, .ref t0, .ref r0])), (ra, .inl (T 2, 6, .inr (.inr (.inr (.inr (fun j => some (rd j))))))), (rd i, .inr (0, [.ref q0, .int (nI n)])), (q0, .inl (T 0, 440, .inl f))] s.heap.size = A at hD hG ⊢
  have hA : ∀ q : Nat, s.heap.size ≤ q → A q := fun q h => by rw [← hAe]; exact Or.inr h
  have hS : va_S A s.heap s.heap [] := va_S.rf
  have hP : va_P D cls [(lo, .inr (2, [.ref ra, .ref d0, .ref b0, .ref t0, .ref r0])), (ra, .inl (T 2, 6, .inr (.inr (.inr (.inr (fun j => some (rd j))))))), (rd i, .inr (0, [.ref q0, .int (nI n)])), (q0, .inl (T 0, 440, .inl f))] s.heap := hP
  have hl := lv_entry ([.ref lo, .int (nI i), .int k]) (n := 5) (Nat.le_of_ble_eq_true rfl)
  rw [lg_entry_eq]
  generalize (lg_sl ([.ref lo, .int (nI i), .int k]) ++ List.replicate (5 - (lg_sl ([.ref lo, .int (nI i), .int k])).length) Slot.unset).toArray = ls at hl ⊢
  have hl : lv_has ls 5 [(0, .ref lo), (1, .int (nI i)), (2, .int k)] := hl
  refine lv_aload_n hx hb dX5_growth_0 rfl (lv_at hl 0 rfl) ?_
  refine lv_iload_n hx hb dX5_growth_1 rfl (lv_at hl 1 rfl) ?_
  refine ro_V (As := [.int (nI i)]) (rest := []) (wc := [(lo, .inr (2, [.ref ra, .ref d0, .ref b0, .ref t0, .ref r0])), (ra, .inl (T 2, 6, .inr (.inr (.inr (.inr (fun j => some (rd j)))))))]) (r := .ref (rd i)) ⟨hx, hb, hml, hown, hts⟩ (c_X5_rowAt l D T g lo ra d0 b0 t0 r0 rd i hi) (cwV 1 hts gX5_growth_X5_rowAt rfl rfl rfl (by decide +kernel) ⟨Nat.le_of_ble_eq_true rfl, Nat.le_of_ble_eq_true rfl⟩) (va_recv hK hP (ci := 2) (q0 := 0) rfl rfl) hP hK hG hS [0, 1] rfl ⟨Nat.zero_le _, Nat.zero_le _⟩ rfl hl.1 (Nat.le_of_ble_eq_true rfl) dX5_growth_2 rfl ?_
  refine lv_astore_n (lv' := [(3, .ref (rd i)), (0, .ref lo), (1, .int (nI i)), (2, .int k)]) hx hb dX5_growth_5 rfl hl (by decide) rfl (fun ls hl => ?_)
  refine lv_iload_n hx hb dX5_growth_6 rfl (lv_at hl 3 rfl) ?_
  refine tx_S (As := [.int k]) (rest := []) (wc := []) (wr := [(lo, .inr (2, [.ref ra, .ref d0, .ref b0, .ref t0, .ref r0])), (ra, .inl (T 2, 6, .inr (.inr (.inr (.inr (fun j => some (rd j))))))), (rd i, .inr (0, [.ref q0, .int (nI n)])), (q0, .inl (T 0, 440, .inl f))]) ⟨hx, hb, hml, hown, hts⟩ (c_X5_kindAt_x l D T g s.heap.size hl9 k hk) (va_cwS 1 hts gX5_growth_X5_kindAt rfl rfl rfl (by decide +kernel) ⟨Nat.le_of_ble_eq_true rfl, Nat.le_of_ble_eq_true rfl⟩) hP hD hK hG hS hA [] [0, 1, 2, 3] rfl (by decide) rfl (by decide) (by decide) ⟨Nat.le_of_ble_eq_true rfl, Nat.le_of_ble_eq_true rfl⟩ rfl hl.1 (Nat.le_of_ble_eq_true rfl) dX5_growth_7 rfl ht hlocks (fun u t hal hq1 hP hD hFF => ?_) (Nat.le_of_ble_eq_true rfl) (Nat.le_of_ble_eq_true rfl)
  have hP : va_P D cls [(lo, .inr (2, [.ref ra, .ref d0, .ref b0, .ref t0, .ref r0])), (ra, .inl (T 2, 6, .inr (.inr (.inr (.inr (fun j => some (rd j))))))), (rd i, .inr (0, [.ref q0, .int (nI n)])), (q0, .inl (T 0, 440, .inl f))] t.heap := hP
  have hD : va_D A [(lo, .inr (2, [.ref ra, .ref d0, .ref b0, .ref t0, .ref r0])), (ra, .inl (T 2, 6, .inr (.inr (.inr (.inr (fun j => some (rd j))))))), (rd i, .inr (0, [.ref q0, .int (nI n)])), (q0, .inl (T 0, 440, .inl f))] := hD
  exact ⟨rfl, ⟨(), trivial, hP.sub (ws' := [(lo, .inr (2, [.ref ra, .ref d0, .ref b0, .ref t0, .ref r0])), (ra, .inl (T 2, 6, .inr (.inr (.inr (.inr (fun j => some (rd j))))))), (rd i, .inr (0, [.ref q0, .int (nI n)])), (q0, .inl (T 0, 440, .inl f))]) [0, 1, 2, 3] rfl, va_K.moved hal hK, hD.sub (ws' := [(lo, .inr (2, [.ref ra, .ref d0, .ref b0, .ref t0, .ref r0])), (ra, .inl (T 2, 6, .inr (.inr (.inr (.inr (fun j => some (rd j))))))), (rd i, .inr (0, [.ref q0, .int (nI n)])), (q0, .inl (T 0, 440, .inl f))]) [0, 1, 2, 3] (by decide) rfl⟩, hFF⟩
set_option maxHeartbeats 4000000 in
set_option maxRecDepth 100000 in
theorem c_growth_x3 (l : Launch) (D : va_G) (T : Nat → ClassId) (g : Nat → Nat) (sz : Nat) (hl9 : l.stackTraces = false) (lo : Nat) (ra : Nat) (d0 : Nat) (b0 : Nat) (t0 : Nat) (r0 : Nat) (rd : Nat → Nat) (i : Nat) (q0 : Nat) (f : Nat → Int32) (n : Nat) (hi : i < 6) (k : Nat) (hk : k < 3) (hn : n = 0) : TX l yX5_growth wsX5_growth ({ frames := 7, cells := 1, slots := 6, locals := 110 } : Room) D T g [.ref lo, .int (nI i), .int (nI k)] [(lo, .inr (2, [.ref ra, .ref d0, .ref b0, .ref t0, .ref r0])), (ra, .inl (T 2, 6, .inr (.inr (.inr (.inr (fun j => some (rd j))))))), (rd i, .inr (0, [.ref q0, .int (nI n)])), (q0, .inl (T 0, 440, .inl f))] sz "java/lang/ArithmeticException" (fun u : Unit => True) (fun u : Unit => [(lo, .inr (2, [.ref ra, .ref d0, .ref b0, .ref t0, .ref r0])), (ra, .inl (T 2, 6, .inr (.inr (.inr (.inr (fun j => some (rd j))))))), (rd i, .inr (0, [.ref q0, .int (nI n)])), (q0, .inl (T 0, 440, .inl f))]) 1 6 := by
  refine vx_ofW (cc := cX5_growth) (maxL := 5) (ret := (some .double)) (by decide) rfl ?_
  intro p e s m args below meth c s₁ B hml ht hv
  obtain ⟨rfl, hsz, hP, hK, hD0, hG⟩ := hv
  have hx := B.exec
  have hb := B.bytes
  have hr := B.returns
  have hts := atoms_spec (ws := wsX5_growth) B.pre
  have hown : s.vm.findClass RX5 = some m.cls := findClass_of_methodNamed B.named
  have hlocks := B.notSynchronized
  subst hsz
  have hD := hD0.self (sz := s.heap.size)
  generalize hAe : va_A [(lo, .inr (2, [.ref ra, .ref d0, .ref b0, .ref t0, .ref r0])), (ra, .inl (T 2, 6, .inr (.inr (.inr (.inr (fun j => some (rd j))))))), (rd i, .inr (0, [.ref q0, .int (nI n)])), (q0, .inl (T 0, 440, .inl f))] s.heap.size = A at hD hG ⊢
  have hA : ∀ q : Nat, s.heap.size ≤ q → A q := fun q h => by rw [← hAe]; exact Or.inr h
  have hS : va_S A s.heap s.heap [] := va_S.rf
  have hP : va_P D cls [(lo, .inr (2, [.ref ra, .ref d0, .ref b0, .ref t0, .ref r0])), (ra, .inl (T 2, 6, .inr (.inr (.inr (.inr (fun j => some (rd j))))))), (rd i, .inr (0, [.ref q0, .int (nI n)])), (q0, .inl (T 0, 440, .inl f))] s.heap := hP
  have hl := lv_entry ([.ref lo, .int (nI i), .int (nI k)]) (n := 5) (Nat.le_of_ble_eq_true rfl)
  rw [lg_entry_eq]
  generalize (lg_sl ([.ref lo, .int (nI i), .int (nI k)]) ++ List.replicate (5 - (lg_sl ([.ref lo, .int (nI i), .int (nI k)])).length) Slot.unset).toArray = ls at hl ⊢
  have hl : lv_has ls 5 [(0, .ref lo), (1, .int (nI i)), (2, .int (nI k))] := hl
  refine lv_aload_n hx hb dX5_growth_0 rfl (lv_at hl 0 rfl) ?_
  refine lv_iload_n hx hb dX5_growth_1 rfl (lv_at hl 1 rfl) ?_
  refine ro_V (As := [.int (nI i)]) (rest := []) (wc := [(lo, .inr (2, [.ref ra, .ref d0, .ref b0, .ref t0, .ref r0])), (ra, .inl (T 2, 6, .inr (.inr (.inr (.inr (fun j => some (rd j)))))))]) (r := .ref (rd i)) ⟨hx, hb, hml, hown, hts⟩ (c_X5_rowAt l D T g lo ra d0 b0 t0 r0 rd i hi) (cwV 1 hts gX5_growth_X5_rowAt rfl rfl rfl (by decide +kernel) ⟨Nat.le_of_ble_eq_true rfl, Nat.le_of_ble_eq_true rfl⟩) (va_recv hK hP (ci := 2) (q0 := 0) rfl rfl) hP hK hG hS [0, 1] rfl ⟨Nat.zero_le _, Nat.zero_le _⟩ rfl hl.1 (Nat.le_of_ble_eq_true rfl) dX5_growth_2 rfl ?_
  refine lv_astore_n (lv' := [(3, .ref (rd i)), (0, .ref lo), (1, .int (nI i)), (2, .int (nI k))]) hx hb dX5_growth_5 rfl hl (by decide) rfl (fun ls hl => ?_)
  refine lv_iload_n hx hb dX5_growth_6 rfl (lv_at hl 3 rfl) ?_
  refine ro_S (As := [.int (nI k)]) (rest := []) (wc := []) (r := .ref (g k)) ⟨hx, hb, hml, hown, hts⟩ (c_X5_kindAt l D T g k hk) (va_cwS 1 hts gX5_growth_X5_kindAt rfl rfl rfl (by decide +kernel) ⟨Nat.le_of_ble_eq_true rfl, Nat.le_of_ble_eq_true rfl⟩) hP hK hG hS [] rfl ⟨Nat.zero_le _, Nat.zero_le _⟩ rfl hl.1 (Nat.le_of_ble_eq_true rfl) dX5_growth_7 rfl ?_
  refine lv_astore (lv' := [(4, .ref (g k)), (3, .ref (rd i)), (0, .ref lo), (1, .int (nI i)), (2, .int (nI k))]) hx hb dX5_growth_10 hl (by decide) rfl (fun ls hl => ?_)
  refine lv_aload_n hx hb dX5_growth_12 rfl (lv_at hl 1 rfl) ?_
  refine tx_S (As := [.ref (rd i)]) (rest := []) (wc := [(rd i, .inr (0, [.ref q0, .int (nI n)])), (q0, .inl (T 0, 440, .inl f))]) (wr := [(lo, .inr (2, [.ref ra, .ref d0, .ref b0, .ref t0, .ref r0])), (ra, .inl (T 2, 6, .inr (.inr (.inr (.inr (fun j => some (rd j)))))))]) ⟨hx, hb, hml, hown, hts⟩ (c_X5_checkNotEmpty_x l D T g s.heap.size hl9 (rd i) q0 f n hn) (va_cwS 1 hts gX5_growth_X5_checkNotEmpty rfl rfl rfl (by decide +kernel) ⟨Nat.le_of_ble_eq_true rfl, Nat.le_of_ble_eq_true rfl⟩) hP hD hK hG hS hA [2, 3] [0, 1] rfl (by decide) rfl (by decide) (by decide) ⟨Nat.le_of_ble_eq_true rfl, Nat.le_of_ble_eq_true rfl⟩ rfl hl.1 (Nat.le_of_ble_eq_true rfl) dX5_growth_13 rfl ht hlocks (fun u t hal hq1 hP hD hFF => ?_) (Nat.le_of_ble_eq_true rfl) (Nat.le_of_ble_eq_true rfl)
  have hP : va_P D cls [(lo, .inr (2, [.ref ra, .ref d0, .ref b0, .ref t0, .ref r0])), (ra, .inl (T 2, 6, .inr (.inr (.inr (.inr (fun j => some (rd j))))))), ((rd i), .inr (0, [.ref q0, .int (nI n)])), (q0, .inl (T 0, 440, .inl f))] t.heap := hP
  have hD : va_D A [(lo, .inr (2, [.ref ra, .ref d0, .ref b0, .ref t0, .ref r0])), (ra, .inl (T 2, 6, .inr (.inr (.inr (.inr (fun j => some (rd j))))))), ((rd i), .inr (0, [.ref q0, .int (nI n)])), (q0, .inl (T 0, 440, .inl f))] := hD
  exact ⟨rfl, ⟨(), trivial, hP.sub (ws' := [(lo, .inr (2, [.ref ra, .ref d0, .ref b0, .ref t0, .ref r0])), (ra, .inl (T 2, 6, .inr (.inr (.inr (.inr (fun j => some (rd j))))))), ((rd i), .inr (0, [.ref q0, .int (nI n)])), (q0, .inl (T 0, 440, .inl f))]) [0, 1, 2, 3] rfl, va_K.moved hal hK, hD.sub (ws' := [(lo, .inr (2, [.ref ra, .ref d0, .ref b0, .ref t0, .ref r0])), (ra, .inl (T 2, 6, .inr (.inr (.inr (.inr (fun j => some (rd j))))))), ((rd i), .inr (0, [.ref q0, .int (nI n)])), (q0, .inl (T 0, 440, .inl f))]) [0, 1, 2, 3] (by decide) rfl⟩, hFF⟩
set_option maxHeartbeats 4000000 in
set_option maxRecDepth 100000 in
theorem c_letterShare (l : Launch) (D : va_G) (T : Nat → ClassId) (g : Nat → Nat) (lo : Nat) (ra : Nat) (d0 : Nat) (b0 : Nat) (t0 : Nat) (r0 : Nat) (rd : Nat → Nat) (i : Nat) (q0 : Nat) (f : Nat → Int32) (n : Nat) (b : Nat → Nat) (hb9 : RB f n b) (hi : i < 6) (k : Nat) (hk : k < 3) (hn : 0 < n ∧ n ≤ 320) : RO l yX5_letterShare wsX5_letterShare ({ frames := 3, cells := 0, slots := 0, locals := 66 } : Room) D T g [.ref lo, .int (nI i), .int (nI k)] [(lo, .inr (2, [.ref ra, .ref d0, .ref b0, .ref t0, .ref r0])), (ra, .inl (T 2, 6, .inr (.inr (.inr (.inr (fun j => some (rd j))))))), (rd i, .inr (0, [.ref q0, .int (nI n)])), (q0, .inl (T 0, 440, .inl f))] (.float (FP.fdiv (FP.i2f (nI (ctN (ltB k b) n))) (FP.i2f (nI n)))) := by
  refine Met.ofW (cc := cX5_letterShare) (maxL := 5) (ret := (some .float)) (by decide) rfl ?_
  intro p e s m args below meth c s₁ B hml hv
  obtain ⟨rfl, hP, hK, hG⟩ := hv
  have hx := B.exec
  have hb := B.bytes
  have hr := B.returns
  have hts := atoms_spec (ws := wsX5_letterShare) B.pre
  have hown : s.vm.findClass RX5 = some m.cls := findClass_of_methodNamed B.named
  have hlocks := B.notSynchronized
  have hi_X2 : ∀ w ∈ wsX20, w ∈ wsX5_letterShare := by decide +kernel
  have hS : va_S (fun _ => False) s.heap s.heap [] := va_S.rf
  have hl := lv_entry ([.ref lo, .int (nI i), .int (nI k)]) (n := 5) (Nat.le_of_ble_eq_true rfl)
  rw [lg_entry_eq]
  generalize (lg_sl ([.ref lo, .int (nI i), .int (nI k)]) ++ List.replicate (5 - (lg_sl ([.ref lo, .int (nI i), .int (nI k)])).length) Slot.unset).toArray = ls at hl ⊢
  have hl : lv_has ls 5 [(0, .ref lo), (1, .int (nI i)), (2, .int (nI k))] := hl
  have hc9 := ctN_le (ltB k b) n
  refine lv_aload_n hx hb dX5_letterShare_0 rfl (lv_at hl 0 rfl) ?_
  refine lv_iload_n hx hb dX5_letterShare_1 rfl (lv_at hl 1 rfl) ?_
  refine ro_V (As := [.int (nI i)]) (rest := []) (wc := [(lo, .inr (2, [.ref ra, .ref d0, .ref b0, .ref t0, .ref r0])), (ra, .inl (T 2, 6, .inr (.inr (.inr (.inr (fun j => some (rd j)))))))]) (r := .ref (rd i)) ⟨hx, hb, hml, hown, hts⟩ (c_X5_rowAt l D T g lo ra d0 b0 t0 r0 rd i hi) (cwV 1 hts gX5_letterShare_X5_rowAt rfl rfl rfl (by decide +kernel) ⟨Nat.le_of_ble_eq_true rfl, Nat.le_of_ble_eq_true rfl⟩) (va_recv hK hP (ci := 2) (q0 := 0) rfl rfl) hP hK hG hS [0, 1] rfl ⟨Nat.zero_le _, Nat.zero_le _⟩ rfl hl.1 (Nat.le_of_ble_eq_true rfl) dX5_letterShare_2 rfl ?_
  refine lv_astore_n (lv' := [(3, .ref (rd i)), (0, .ref lo), (1, .int (nI i)), (2, .int (nI k))]) hx hb dX5_letterShare_5 rfl hl (by decide) rfl (fun ls hl => ?_)
  refine lv_iload_n hx hb dX5_letterShare_6 rfl (lv_at hl 3 rfl) ?_
  refine ro_S (As := [.int (nI k)]) (rest := []) (wc := []) (r := .ref (g k)) ⟨hx, hb, hml, hown, hts⟩ (c_X5_kindAt l D T g k hk) (va_cwS 1 hts gX5_letterShare_X5_kindAt rfl rfl rfl (by decide +kernel) ⟨Nat.le_of_ble_eq_true rfl, Nat.le_of_ble_eq_true rfl⟩) hP hK hG hS [] rfl ⟨Nat.zero_le _, Nat.zero_le _⟩ rfl hl.1 (Nat.le_of_ble_eq_true rfl) dX5_letterShare_7 rfl ?_
  refine lv_astore (lv' := [(4, .ref (g k)), (3, .ref (rd i)), (0, .ref lo), (1, .int (nI i)), (2, .int (nI k))]) hx hb dX5_letterShare_10 hl (by decide) rfl (fun ls hl => ?_)
  refine lv_aload_n hx hb dX5_letterShare_12 rfl (lv_at hl 1 rfl) ?_
  refine rv_S (As := [.ref (rd i)]) (rest := []) (wc := [(rd i, .inr (0, [.ref q0, .int (nI n)])), (q0, .inl (T 0, 440, .inl f))]) ⟨hx, hb, hml, hown, hts⟩ (c_X5_checkNotEmpty l D T g (rd i) q0 f n (⟨hn.1, by omega⟩)) (va_cwS 1 hts gX5_letterShare_X5_checkNotEmpty rfl rfl rfl (by decide +kernel) ⟨Nat.le_of_ble_eq_true rfl, Nat.le_of_ble_eq_true rfl⟩) hP hK hG hS [2, 3] rfl ⟨Nat.zero_le _, Nat.zero_le _⟩ rfl hl.1 (Nat.le_of_ble_eq_true rfl) dX5_letterShare_13 rfl ?_
  refine lv_aload_n hx hb dX5_letterShare_16 rfl (lv_at hl 1 rfl) ?_
  refine lv_aload hx hb dX5_letterShare_17 (lv_at hl 0 rfl) ?_
  refine lv_aload_n hx hb dX5_letterShare_19 rfl (lv_at hl 1 rfl) ?_
  refine va_getN (D := D) (ci := 0) (v := .int (nI n)) (C := RX2) (T := TX2) (N := 2) hx hb hts hi_X2 hown hK hP 2 rfl rfl 1 (by decide) (nx0 hG) (fun _ h9 => h9) rfl dX5_letterShare_20 ?_
  refine ro_V (As := [.ref (g k), .int (nI n)]) (rest := []) (wc := [(rd i, .inr (0, [.ref q0, .int (nI n)])), (q0, .inl (T 0, 440, .inl f))]) (r := .int (nI (ctN (ltB k b) n))) ⟨hx, hb, hml, hown, hts⟩ (c_X2_countLetters l D T g (rd i) q0 f n k n b (hb9) hk (Nat.le_refl _)) (cwV 2 hts gX5_letterShare_X2_countLetters rfl rfl rfl (by decide +kernel) ⟨Nat.le_of_ble_eq_true rfl, Nat.le_of_ble_eq_true rfl⟩) (va_recv hK hP (ci := 0) (q0 := 2) rfl rfl) hP hK hG hS [2, 3] rfl ⟨Nat.zero_le _, Nat.zero_le _⟩ rfl hl.1 (Nat.le_of_ble_eq_true rfl) dX5_letterShare_23 rfl ?_
  refine lv_i2f hx hb dX5_letterShare_26 ?_
  refine lv_aload_n hx hb dX5_letterShare_27 rfl (lv_at hl 1 rfl) ?_
  refine va_getN (D := D) (ci := 0) (v := .int (nI n)) (C := RX2) (T := TX2) (N := 2) hx hb hts hi_X2 hown hK hP 2 rfl rfl 1 (by decide) (nx0 hG) (fun _ h9 => h9) rfl dX5_letterShare_28 ?_
  refine lv_i2f hx hb dX5_letterShare_31 ?_
  refine lv_fdiv hx hb dX5_letterShare_32 (shF_n (by omega) (by omega) hn.1) ?_
  exact W.fret (v := (FP.fdiv (FP.i2f (nI (ctN (ltB k b) n))) (FP.i2f (nI n)))) hx hb hr (fun t ht hW => ⟨(congrArg (fun z => Outcome.returned (some (Value.float z))) (show (FP.fdiv (FP.i2f (nI (ctN (ltB k b) n))) (FP.i2f (nI n))) = (FP.fdiv (FP.i2f (nI (ctN (ltB k b) n))) (FP.i2f (nI n))) from rfl)), ht⟩) (fun q h => nomatch h) dX5_letterShare_33
set_option maxHeartbeats 4000000 in
set_option maxRecDepth 100000 in
theorem c_growth (l : Launch) (D : va_G) (T : Nat → ClassId) (g : Nat → Nat) (lo : Nat) (ra : Nat) (d0 : Nat) (b0 : Nat) (t0 : Nat) (r0 : Nat) (rd : Nat → Nat) (i : Nat) (q0 : Nat) (f : Nat → Int32) (n : Nat) (hi : i < 6) (k : Nat) (hk : k < 3) (hn : 0 < n ∧ n ≤ 320) : RO l yX5_growth wsX5_growth ({ frames := 2, cells := 0, slots := 0, locals := 46 } : Room) D T g [.ref lo, .int (nI i), .int (nI k)] [(lo, .inr (2, [.ref ra, .ref d0, .ref b0, .ref t0, .ref r0])), (ra, .inl (T 2, 6, .inr (.inr (.inr (.inr (fun j => some (rd j))))))), (rd i, .inr (0, [.ref q0, .int (nI n)])), (q0, .inl (T 0, 440, .inl f))] (.double (FP.ddiv (FP.i2d (nI (lnN k n 1))) (FP.i2d (nI n)))) := by
  refine Met.ofW (cc := cX5_growth) (maxL := 5) (ret := (some .double)) (by decide) rfl ?_
  intro p e s m args below meth c s₁ B hml hv
  obtain ⟨rfl, hP, hK, hG⟩ := hv
  have hx := B.exec
  have hb := B.bytes
  have hr := B.returns
  have hts := atoms_spec (ws := wsX5_growth) B.pre
  have hown : s.vm.findClass RX5 = some m.cls := findClass_of_methodNamed B.named
  have hlocks := B.notSynchronized
  have hi_X2 : ∀ w ∈ wsX20, w ∈ wsX5_growth := by decide +kernel
  have hS : va_S (fun _ => False) s.heap s.heap [] := va_S.rf
  have hl := lv_entry ([.ref lo, .int (nI i), .int (nI k)]) (n := 5) (Nat.le_of_ble_eq_true rfl)
  rw [lg_entry_eq]
  generalize (lg_sl ([.ref lo, .int (nI i), .int (nI k)]) ++ List.replicate (5 - (lg_sl ([.ref lo, .int (nI i), .int (nI k)])).length) Slot.unset).toArray = ls at hl ⊢
  have hl : lv_has ls 5 [(0, .ref lo), (1, .int (nI i)), (2, .int (nI k))] := hl
  have hle := lnN_le (k := k) (n := n) (fl := 1) hn.2
  refine lv_aload_n hx hb dX5_growth_0 rfl (lv_at hl 0 rfl) ?_
  refine lv_iload_n hx hb dX5_growth_1 rfl (lv_at hl 1 rfl) ?_
  refine ro_V (As := [.int (nI i)]) (rest := []) (wc := [(lo, .inr (2, [.ref ra, .ref d0, .ref b0, .ref t0, .ref r0])), (ra, .inl (T 2, 6, .inr (.inr (.inr (.inr (fun j => some (rd j)))))))]) (r := .ref (rd i)) ⟨hx, hb, hml, hown, hts⟩ (c_X5_rowAt l D T g lo ra d0 b0 t0 r0 rd i hi) (cwV 1 hts gX5_growth_X5_rowAt rfl rfl rfl (by decide +kernel) ⟨Nat.le_of_ble_eq_true rfl, Nat.le_of_ble_eq_true rfl⟩) (va_recv hK hP (ci := 2) (q0 := 0) rfl rfl) hP hK hG hS [0, 1] rfl ⟨Nat.zero_le _, Nat.zero_le _⟩ rfl hl.1 (Nat.le_of_ble_eq_true rfl) dX5_growth_2 rfl ?_
  refine lv_astore_n (lv' := [(3, .ref (rd i)), (0, .ref lo), (1, .int (nI i)), (2, .int (nI k))]) hx hb dX5_growth_5 rfl hl (by decide) rfl (fun ls hl => ?_)
  refine lv_iload_n hx hb dX5_growth_6 rfl (lv_at hl 3 rfl) ?_
  refine ro_S (As := [.int (nI k)]) (rest := []) (wc := []) (r := .ref (g k)) ⟨hx, hb, hml, hown, hts⟩ (c_X5_kindAt l D T g k hk) (va_cwS 1 hts gX5_growth_X5_kindAt rfl rfl rfl (by decide +kernel) ⟨Nat.le_of_ble_eq_true rfl, Nat.le_of_ble_eq_true rfl⟩) hP hK hG hS [] rfl ⟨Nat.zero_le _, Nat.zero_le _⟩ rfl hl.1 (Nat.le_of_ble_eq_true rfl) dX5_growth_7 rfl ?_
  refine lv_astore (lv' := [(4, .ref (g k)), (3, .ref (rd i)), (0, .ref lo), (1, .int (nI i)), (2, .int (nI k))]) hx hb dX5_growth_10 hl (by decide) rfl (fun ls hl => ?_)
  refine lv_aload_n hx hb dX5_growth_12 rfl (lv_at hl 1 rfl) ?_
  refine rv_S (As := [.ref (rd i)]) (rest := []) (wc := [(rd i, .inr (0, [.ref q0, .int (nI n)])), (q0, .inl (T 0, 440, .inl f))]) ⟨hx, hb, hml, hown, hts⟩ (c_X5_checkNotEmpty l D T g (rd i) q0 f n (⟨hn.1, by omega⟩)) (va_cwS 1 hts gX5_growth_X5_checkNotEmpty rfl rfl rfl (by decide +kernel) ⟨Nat.le_of_ble_eq_true rfl, Nat.le_of_ble_eq_true rfl⟩) hP hK hG hS [2, 3] rfl ⟨Nat.zero_le _, Nat.zero_le _⟩ rfl hl.1 (Nat.le_of_ble_eq_true rfl) dX5_growth_13 rfl ?_
  refine lv_aload_n hx hb dX5_growth_16 rfl (lv_at hl 1 rfl) ?_
  refine va_getN (D := D) (ci := 0) (v := .int (nI n)) (C := RX2) (T := TX2) (N := 2) hx hb hts hi_X2 hown hK hP 2 rfl rfl 1 (by decide) (nx0 hG) (fun _ h9 => h9) rfl dX5_growth_17 ?_
  refine lv_aload hx hb dX5_growth_20 (lv_at hl 0 rfl) ?_
  refine lv_iconst (v := (nI 1)) hx hb dX5_growth_22 (by decide +kernel) ?_
  refine ro_S (As := [.int (nI n), .ref (g k), .int (nI 1)]) (rest := []) (wc := []) (r := .int (nI (lnN k n 1))) ⟨hx, hb, hml, hown, hts⟩ (c_X4_lengthOf l D T g n k 1 hk (⟨hn.2, by decide⟩)) (va_cwS 3 hts gX5_growth_X4_lengthOf rfl rfl rfl (by decide +kernel) ⟨Nat.le_of_ble_eq_true rfl, Nat.le_of_ble_eq_true rfl⟩) hP hK hG hS [] rfl ⟨Nat.zero_le _, Nat.zero_le _⟩ rfl hl.1 (Nat.le_of_ble_eq_true rfl) dX5_growth_23 rfl ?_
  refine lv_i2d hx hb dX5_growth_26 ?_
  refine lv_aload_n hx hb dX5_growth_27 rfl (lv_at hl 1 rfl) ?_
  refine va_getN (D := D) (ci := 0) (v := .int (nI n)) (C := RX2) (T := TX2) (N := 2) hx hb hts hi_X2 hown hK hP 2 rfl rfl 1 (by decide) (nx0 hG) (fun _ h9 => h9) rfl dX5_growth_28 ?_
  refine lv_i2d hx hb dX5_growth_31 ?_
  refine lv_ddiv hx hb dX5_growth_32 (grD_n (by omega) (by omega) hn.1) ?_
  exact W.dret (v := (FP.ddiv (FP.i2d (nI (lnN k n 1))) (FP.i2d (nI n)))) hx hb hr (fun t ht hW => ⟨(congrArg (fun z => Outcome.returned (some (Value.double z))) (show (FP.ddiv (FP.i2d (nI (lnN k n 1))) (FP.i2d (nI n))) = (FP.ddiv (FP.i2d (nI (lnN k n 1))) (FP.i2d (nI n))) from rfl)), ht⟩) (fun q h => nomatch h) dX5_growth_33
