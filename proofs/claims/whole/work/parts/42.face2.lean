set_option maxHeartbeats 4000000 in
set_option maxRecDepth 100000 in
/-- copy: no such row -/
theorem c_copy_x1 (l : Launch) (D : va_G) (T : Nat → ClassId) (g : Nat → Nat) (sz : Nat) (hl9 : l.stackTraces = false) (lo : Nat) (ra : Nat) (d0 : Nat) (b0 : Nat) (t0 : Nat) (r0 : Nat) (rd : Nat → Nat) (i : Int32) (hi : i < 0 ∨ ¬ i < nI 6) (x0 : Int32) : TX l yX5_copy wsX5_copy ({ frames := 7, cells := 1, slots := 6, locals := 111 } : Room) D T g [.ref lo, .int i, .int x0] [(lo, .inr (2, [.ref ra, .ref d0, .ref b0, .ref t0, .ref r0])), (ra, .inl (T 2, 6, .inr (.inr (.inr (.inr (fun j => some (rd j)))))))] sz "java/lang/IndexOutOfBoundsException" (fun u : Unit => True) (fun u : Unit => [(lo, .inr (2, [.ref ra, .ref d0, .ref b0, .ref t0, .ref r0])), (ra, .inl (T 2, 6, .inr (.inr (.inr (.inr (fun j => some (rd j)))))))]) 1 6 := by
  refine vx_ofW (cc := cX5_copy) (maxL := 5) (ret := (some .int)) (by decide) rfl ?_
  intro p e s m args below meth c s₁ B hml ht hv
  obtain ⟨rfl, hsz, hP, hK, hD0, hG⟩ := hv
  have hx := B.exec
  have hb := B.bytes
  have hr := B.returns
  have hts := atoms_spec (ws := wsX5_copy) B.pre
  have hown : s.vm.findClass RX5 = some m.cls := findClass_of_methodNamed B.named
  have hlocks := B.notSynchronized
  subst hsz
  have hD := hD0.self (sz := s.heap.size)
  generalize hAe : va_A [(lo, .inr (2, [.ref ra, .ref d0, .ref b0, .ref t0, .ref r0])), (ra, .inl (T 2, 6, .inr (.inr (.inr (.inr (fun j => some (rd j)))))))] s.heap.size = A at hD hG ⊢
  have hA : ∀ q : Nat, s.heap.size ≤ q → A q := fun q h => by rw [← hAe]; exact Or.inr h
  have hS : va_S A s.heap s.heap [] := va_S.rf
  have hP : va_P D cls [(lo, .inr (2, [.ref ra, .ref d0, .ref b0, .ref t0, .ref r0])), (ra, .inl (T 2, 6, .inr (.inr (.inr (.inr (fun j => some (rd j)))))))] s.heap := hP
  have hl := lv_entry ([.ref lo, .int i, .int x0]) (n := 5) (Nat.le_of_ble_eq_true rfl)
  rw [lg_entry_eq]
  generalize (lg_sl ([.ref lo, .int i, .int x0]) ++ List.replicate (5 - (lg_sl ([.ref lo, .int i, .int x0])).length) Slot.unset).toArray = ls at hl ⊢
  have hl : lv_has ls 5 [(0, .ref lo), (1, .int i), (2, .int x0)] := hl
  refine lv_aload_n hx hb dX5_copy_0 rfl (lv_at hl 0 rfl) ?_
  refine lv_iload_n hx hb dX5_copy_1 rfl (lv_at hl 1 rfl) ?_
  refine tx_V (As := [.int i]) (rest := []) (wc := [(lo, .inr (2, [.ref ra, .ref d0, .ref b0, .ref t0, .ref r0])), (ra, .inl (T 2, 6, .inr (.inr (.inr (.inr (fun j => some (rd j)))))))]) (wr := []) ⟨hx, hb, hml, hown, hts⟩ (c_X5_rowAt_x l D T g s.heap.size hl9 lo ra d0 b0 t0 r0 rd i hi) (cwV 1 hts gX5_copy_X5_rowAt rfl rfl rfl (by decide +kernel) ⟨Nat.le_of_ble_eq_true rfl, Nat.le_of_ble_eq_true rfl⟩) (va_recv hK hP (ci := 2) (q0 := 0) rfl rfl) hP hD hK hG hS hA [0, 1] [] rfl (by decide) rfl (by decide) (by decide) ⟨Nat.le_of_ble_eq_true rfl, Nat.le_of_ble_eq_true rfl⟩ rfl hl.1 (Nat.le_of_ble_eq_true rfl) dX5_copy_2 rfl ht hlocks (fun u t hal hq1 hP hD hFF => ?_) (Nat.le_of_ble_eq_true rfl) (Nat.le_of_ble_eq_true rfl)
  have hP : va_P D cls [(lo, .inr (2, [.ref ra, .ref d0, .ref b0, .ref t0, .ref r0])), (ra, .inl (T 2, 6, .inr (.inr (.inr (.inr (fun j => some (rd j)))))))] t.heap := hP
  have hD : va_D A [(lo, .inr (2, [.ref ra, .ref d0, .ref b0, .ref t0, .ref r0])), (ra, .inl (T 2, 6, .inr (.inr (.inr (.inr (fun j => some (rd j)))))))] := hD
  exact ⟨rfl, ⟨(), trivial, hP.sub (ws' := [(lo, .inr (2, [.ref ra, .ref d0, .ref b0, .ref t0, .ref r0])), (ra, .inl (T 2, 6, .inr (.inr (.inr (.inr (fun j => some (rd j)))))))]) [0, 1] rfl, va_K.moved hal hK, hD.sub (ws' := [(lo, .inr (2, [.ref ra, .ref d0, .ref b0, .ref t0, .ref r0])), (ra, .inl (T 2, 6, .inr (.inr (.inr (.inr (fun j => some (rd j)))))))]) [0, 1] (by decide) rfl⟩, hFF⟩
set_option maxHeartbeats 4000000 in
set_option maxRecDepth 100000 in
/-- copy: no such other row -/
theorem c_copy_x2 (l : Launch) (D : va_G) (T : Nat → ClassId) (g : Nat → Nat) (sz : Nat) (hl9 : l.stackTraces = false) (lo : Nat) (ra : Nat) (d0 : Nat) (b0 : Nat) (t0 : Nat) (r0 : Nat) (rd : Nat → Nat) (i : Nat) (hi : i < 6) (j : Int32) (hj : j < 0 ∨ ¬ j < nI 6) : TX l yX5_copy wsX5_copy ({ frames := 7, cells := 1, slots := 6, locals := 111 } : Room) D T g [.ref lo, .int (nI i), .int j] [(lo, .inr (2, [.ref ra, .ref d0, .ref b0, .ref t0, .ref r0])), (ra, .inl (T 2, 6, .inr (.inr (.inr (.inr (fun j => some (rd j)))))))] sz "java/lang/IndexOutOfBoundsException" (fun u : Unit => True) (fun u : Unit => [(lo, .inr (2, [.ref ra, .ref d0, .ref b0, .ref t0, .ref r0])), (ra, .inl (T 2, 6, .inr (.inr (.inr (.inr (fun j => some (rd j)))))))]) 1 6 := by
  refine vx_ofW (cc := cX5_copy) (maxL := 5) (ret := (some .int)) (by decide) rfl ?_
  intro p e s m args below meth c s₁ B hml ht hv
  obtain ⟨rfl, hsz, hP, hK, hD0, hG⟩ := hv
  have hx := B.exec
  have hb := B.bytes
  have hr := B.returns
  have hts := atoms_spec (ws := wsX5_copy) B.pre
  have hown : s.vm.findClass RX5 = some m.cls := findClass_of_methodNamed B.named
  have hlocks := B.notSynchronized
  subst hsz
  have hD := hD0.self (sz := s.heap.size)
  generalize hAe : va_A [(lo, .inr (2, [.ref ra, .ref d0, .ref b0, .ref t0, .ref r0])), (ra, .inl (T 2, 6, .inr (.inr (.inr (.inr (fun j => some (rd j)))))))] s.heap.size = A at hD hG ⊢
  have hA : ∀ q : Nat, s.heap.size ≤ q → A q := fun q h => by rw [← hAe]; exact Or.inr h
  have hS : va_S A s.heap s.heap [] := va_S.rf
  have hP : va_P D cls [(lo, .inr (2, [.ref ra, .ref d0, .ref b0, .ref t0, .ref r0])), (ra, .inl (T 2, 6, .inr (.inr (.inr (.inr (fun j => some (rd j)))))))] s.heap := hP
  have hl := lv_entry ([.ref lo, .int (nI i), .int j]) (n := 5) (Nat.le_of_ble_eq_true rfl)
  rw [lg_entry_eq]
  generalize (lg_sl ([.ref lo, .int (nI i), .int j]) ++ List.replicate (5 - (lg_sl ([.ref lo, .int (nI i), .int j])).length) Slot.unset).toArray = ls at hl ⊢
  have hl : lv_has ls 5 [(0, .ref lo), (1, .int (nI i)), (2, .int j)] := hl
  refine lv_aload_n hx hb dX5_copy_0 rfl (lv_at hl 0 rfl) ?_
  refine lv_iload_n hx hb dX5_copy_1 rfl (lv_at hl 1 rfl) ?_
  refine ro_V (As := [.int (nI i)]) (rest := []) (wc := [(lo, .inr (2, [.ref ra, .ref d0, .ref b0, .ref t0, .ref r0])), (ra, .inl (T 2, 6, .inr (.inr (.inr (.inr (fun j => some (rd j)))))))]) (r := .ref (rd i)) ⟨hx, hb, hml, hown, hts⟩ (c_X5_rowAt l D T g lo ra d0 b0 t0 r0 rd i hi) (cwV 1 hts gX5_copy_X5_rowAt rfl rfl rfl (by decide +kernel) ⟨Nat.le_of_ble_eq_true rfl, Nat.le_of_ble_eq_true rfl⟩) (va_recv hK hP (ci := 2) (q0 := 0) rfl rfl) hP hK hG hS [0, 1] rfl ⟨Nat.zero_le _, Nat.zero_le _⟩ rfl hl.1 (Nat.le_of_ble_eq_true rfl) dX5_copy_2 rfl ?_
  refine lv_astore_n (lv' := [(3, .ref (rd i)), (0, .ref lo), (1, .int (nI i)), (2, .int j)]) hx hb dX5_copy_5 rfl hl (by decide) rfl (fun ls hl => ?_)
  refine lv_aload_n hx hb dX5_copy_6 rfl (lv_at hl 1 rfl) ?_
  refine lv_iload_n hx hb dX5_copy_7 rfl (lv_at hl 3 rfl) ?_
  refine tx_V (As := [.int j]) (rest := []) (wc := [(lo, .inr (2, [.ref ra, .ref d0, .ref b0, .ref t0, .ref r0])), (ra, .inl (T 2, 6, .inr (.inr (.inr (.inr (fun j => some (rd j)))))))]) (wr := []) ⟨hx, hb, hml, hown, hts⟩ (c_X5_rowAt_x l D T g s.heap.size hl9 lo ra d0 b0 t0 r0 rd j hj) (cwV 1 hts gX5_copy_X5_rowAt rfl rfl rfl (by decide +kernel) ⟨Nat.le_of_ble_eq_true rfl, Nat.le_of_ble_eq_true rfl⟩) (va_recv hK hP (ci := 2) (q0 := 0) rfl rfl) hP hD hK hG hS hA [0, 1] [] rfl (by decide) rfl (by decide) (by decide) ⟨Nat.le_of_ble_eq_true rfl, Nat.le_of_ble_eq_true rfl⟩ rfl hl.1 (Nat.le_of_ble_eq_true rfl) dX5_copy_8 rfl ht hlocks (fun u t hal hq1 hP hD hFF => ?_) (Nat.le_of_ble_eq_true rfl) (Nat.le_of_ble_eq_true rfl)
  have hP : va_P D cls [(lo, .inr (2, [.ref ra, .ref d0, .ref b0, .ref t0, .ref r0])), (ra, .inl (T 2, 6, .inr (.inr (.inr (.inr (fun j => some (rd j)))))))] t.heap := hP
  have hD : va_D A [(lo, .inr (2, [.ref ra, .ref d0, .ref b0, .ref t0, .ref r0])), (ra, .inl (T 2, 6, .inr (.inr (.inr (.inr (fun j => some (rd j)))))))] := hD
  exact ⟨rfl, ⟨(), trivial, hP.sub (ws' := [(lo, .inr (2, [.ref ra, .ref d0, .ref b0, .ref t0, .ref r0])), (ra, .inl (T 2, 6, .inr (.inr (.inr (.inr (fun j => some (rd j)))))))]) [0, 1] rfl, va_K.moved hal hK, hD.sub (ws' := [(lo, .inr (2, [.ref ra, .ref d0, .ref b0, .ref t0, .ref r0])), (ra, .inl (T 2, 6, .inr (.inr (.inr (.inr (fun j => some (rd j)))))))]) [0, 1] (by decide) rfl⟩, hFF⟩
set_option maxHeartbeats 4000000 in
set_option maxRecDepth 100000 in
theorem c_copy (l : Launch) (D : va_G) (T : Nat → ClassId) (g : Nat → Nat) (sz : Nat) (lo : Nat) (ra : Nat) (d0 : Nat) (b0 : Nat) (t0 : Nat) (r0 : Nat) (rd : Nat → Nat) (i : Nat) (q0 : Nat) (f : Nat → Int32) (n : Nat) (j : Nat) (q1 : Nat) (f1 : Nat → Int32) (n1 : Nat) (b : Nat → Nat) (hb9 : RB f n b) (hi : i < 6) (hj : j < 6) : MU l yX5_copy wsX5_copy ({ frames := 2, cells := 0, slots := 0, locals := 43 } : Room) D T g [.ref lo, .int (nI i), .int (nI j)] [(lo, .inr (2, [.ref ra, .ref d0, .ref b0, .ref t0, .ref r0])), (ra, .inl (T 2, 6, .inr (.inr (.inr (.inr (fun j => some (rd j))))))), (rd i, .inr (0, [.ref q0, .int (nI n)])), (q0, .inl (T 0, 440, .inl f)), (rd j, .inr (0, [.ref q1, .int (nI n1)])), (q1, .inl (T 0, 440, .inl f1))] sz (fun u : Nat → Int32 => some (.int (nI n))) (fun u : Nat → Int32 => RB u n b) (fun u : Nat → Int32 => [(lo, .inr (2, [.ref ra, .ref d0, .ref b0, .ref t0, .ref r0])), (ra, .inl (T 2, 6, .inr (.inr (.inr (.inr (fun j => some (rd j))))))), (rd i, .inr (0, [.ref q0, .int (nI n)])), (q0, .inl (T 0, 440, .inl f)), (rd j, .inr (0, [.ref q1, .int (nI n)])), (q1, .inl (T 0, 440, .inl u))]) 0 0 := by
  refine Met.ofW (cc := cX5_copy) (maxL := 5) (ret := (some .int)) (by decide) rfl ?_
  intro p e s m args below meth c s₁ B hml hv
  obtain ⟨rfl, hsz, hP, hK, hD0, hG⟩ := hv
  have hx := B.exec
  have hb := B.bytes
  have hr := B.returns
  have hts := atoms_spec (ws := wsX5_copy) B.pre
  have hown : s.vm.findClass RX5 = some m.cls := findClass_of_methodNamed B.named
  have hlocks := B.notSynchronized
  have hi_X2 : ∀ w ∈ wsX20, w ∈ wsX5_copy := by decide +kernel
  subst hsz
  have hD := hD0.self (sz := s.heap.size)
  generalize hAe : va_A [(lo, .inr (2, [.ref ra, .ref d0, .ref b0, .ref t0, .ref r0])), (ra, .inl (T 2, 6, .inr (.inr (.inr (.inr (fun j => some (rd j))))))), (rd i, .inr (0, [.ref q0, .int (nI n)])), (q0, .inl (T 0, 440, .inl f)), (rd j, .inr (0, [.ref q1, .int (nI n1)])), (q1, .inl (T 0, 440, .inl f1))] s.heap.size = A at hD hG ⊢
  have hA : ∀ q : Nat, s.heap.size ≤ q → A q := fun q h => by rw [← hAe]; exact Or.inr h
  have hS : va_S A s.heap s.heap [] := va_S.rf
  have hP : va_P D cls [(lo, .inr (2, [.ref ra, .ref d0, .ref b0, .ref t0, .ref r0])), (ra, .inl (T 2, 6, .inr (.inr (.inr (.inr (fun j => some (rd j))))))), (rd i, .inr (0, [.ref q0, .int (nI n)])), (q0, .inl (T 0, 440, .inl f)), (rd j, .inr (0, [.ref q1, .int (nI n1)])), (q1, .inl (T 0, 440, .inl f1))] s.heap := hP
  have hl := lv_entry ([.ref lo, .int (nI i), .int (nI j)]) (n := 5) (Nat.le_of_ble_eq_true rfl)
  rw [lg_entry_eq]
  generalize (lg_sl ([.ref lo, .int (nI i), .int (nI j)]) ++ List.replicate (5 - (lg_sl ([.ref lo, .int (nI i), .int (nI j)])).length) Slot.unset).toArray = ls at hl ⊢
  have hl : lv_has ls 5 [(0, .ref lo), (1, .int (nI i)), (2, .int (nI j))] := hl
  refine lv_aload_n hx hb dX5_copy_0 rfl (lv_at hl 0 rfl) ?_
  refine lv_iload_n hx hb dX5_copy_1 rfl (lv_at hl 1 rfl) ?_
  refine ro_V (As := [.int (nI i)]) (rest := []) (wc := [(lo, .inr (2, [.ref ra, .ref d0, .ref b0, .ref t0, .ref r0])), (ra, .inl (T 2, 6, .inr (.inr (.inr (.inr (fun j => some (rd j)))))))]) (r := .ref (rd i)) ⟨hx, hb, hml, hown, hts⟩ (c_X5_rowAt l D T g lo ra d0 b0 t0 r0 rd i hi) (cwV 1 hts gX5_copy_X5_rowAt rfl rfl rfl (by decide +kernel) ⟨Nat.le_of_ble_eq_true rfl, Nat.le_of_ble_eq_true rfl⟩) (va_recv hK hP (ci := 2) (q0 := 0) rfl rfl) hP hK hG hS [0, 1] rfl ⟨Nat.zero_le _, Nat.zero_le _⟩ rfl hl.1 (Nat.le_of_ble_eq_true rfl) dX5_copy_2 rfl ?_
  refine lv_astore_n (lv' := [(3, .ref (rd i)), (0, .ref lo), (1, .int (nI i)), (2, .int (nI j))]) hx hb dX5_copy_5 rfl hl (by decide) rfl (fun ls hl => ?_)
  refine lv_aload_n hx hb dX5_copy_6 rfl (lv_at hl 1 rfl) ?_
  refine lv_iload_n hx hb dX5_copy_7 rfl (lv_at hl 3 rfl) ?_
  refine ro_V (As := [.int (nI j)]) (rest := []) (wc := [(lo, .inr (2, [.ref ra, .ref d0, .ref b0, .ref t0, .ref r0])), (ra, .inl (T 2, 6, .inr (.inr (.inr (.inr (fun j => some (rd j)))))))]) (r := .ref (rd j)) ⟨hx, hb, hml, hown, hts⟩ (c_X5_rowAt l D T g lo ra d0 b0 t0 r0 rd j hj) (cwV 1 hts gX5_copy_X5_rowAt rfl rfl rfl (by decide +kernel) ⟨Nat.le_of_ble_eq_true rfl, Nat.le_of_ble_eq_true rfl⟩) (va_recv hK hP (ci := 2) (q0 := 0) rfl rfl) hP hK hG hS [0, 1] rfl ⟨Nat.zero_le _, Nat.zero_le _⟩ rfl hl.1 (Nat.le_of_ble_eq_true rfl) dX5_copy_8 rfl ?_
  refine lv_astore (lv' := [(4, .ref (rd j)), (3, .ref (rd i)), (0, .ref lo), (1, .int (nI i)), (2, .int (nI j))]) hx hb dX5_copy_11 hl (by decide) rfl (fun ls hl => ?_)
  refine lv_aload hx hb dX5_copy_13 (lv_at hl 0 rfl) ?_
  refine lv_aload_n hx hb dX5_copy_15 rfl (lv_at hl 1 rfl) ?_
  refine mu_V (As := [.ref (rd i)]) (rest := []) (wc := [(rd j, .inr (0, [.ref q1, .int (nI n1)])), (q1, .inl (T 0, 440, .inl f1)), (rd i, .inr (0, [.ref q0, .int (nI n)])), (q0, .inl (T 0, 440, .inl f))]) (wr := [(lo, .inr (2, [.ref ra, .ref d0, .ref b0, .ref t0, .ref r0])), (ra, .inl (T 2, 6, .inr (.inr (.inr (.inr (fun j => some (rd j)))))))]) ⟨hx, hb, hml, hown, hts⟩ (c_X2_become l D T g s.heap.size (rd j) q1 f1 n1 (rd i) q0 f n b (hb9)) (cwV 1 hts gX5_copy_X2_become rfl rfl rfl (by decide +kernel) ⟨Nat.le_of_ble_eq_true rfl, Nat.le_of_ble_eq_true rfl⟩) (va_recv hK hP (ci := 0) (q0 := 4) rfl rfl) hP hD hK hG hS hA [4, 5, 2, 3] [0, 1] rfl (by decide) rfl (by decide) (by decide) ⟨Nat.le_of_ble_eq_true rfl, Nat.le_of_ble_eq_true rfl⟩ rfl hl.1 (Nat.le_of_ble_eq_true rfl) dX5_copy_16 rfl (fun u H locs hq2 hP hD hS => ?_)
  obtain ⟨F_1, hu9⟩ : ∃ z, z = u := ⟨_, rfl⟩
  subst hu9
  have hP : va_P D cls [(lo, .inr (2, [.ref ra, .ref d0, .ref b0, .ref t0, .ref r0])), (ra, .inl (T 2, 6, .inr (.inr (.inr (.inr (fun j => some (rd j))))))), ((rd j), .inr (0, [.ref q1, .int (nI n)])), (q1, .inl (T 0, 440, .inl F_1)), ((rd i), .inr (0, [.ref q0, .int (nI n)])), (q0, .inl (T 0, 440, .inl f))] H := hP
  have hD : va_D A [(lo, .inr (2, [.ref ra, .ref d0, .ref b0, .ref t0, .ref r0])), (ra, .inl (T 2, 6, .inr (.inr (.inr (.inr (fun j => some (rd j))))))), ((rd j), .inr (0, [.ref q1, .int (nI n)])), (q1, .inl (T 0, 440, .inl F_1)), ((rd i), .inr (0, [.ref q0, .int (nI n)])), (q0, .inl (T 0, 440, .inl f))] := hD
  have hq2 : RB F_1 n b := hq2
  refine W.eq (g2 := F0 m 19 ls []) rfl ?_
  refine lv_aload hx hb dX5_copy_19 (lv_at hl 0 rfl) ?_
  refine va_getN (D := D) (ci := 0) (v := .int (nI n)) (C := RX2) (T := TX2) (N := 2) hx hb hts hi_X2 hown hK hP 2 rfl rfl 1 (by decide) (nx0 hG) (fun _ h9 => h9) rfl dX5_copy_21 ?_
  have hP9 := hP.sub (ws' := [(lo, .inr (2, [.ref ra, .ref d0, .ref b0, .ref t0, .ref r0])), (ra, .inl (T 2, 6, .inr (.inr (.inr (.inr (fun j => some (rd j))))))), ((rd i), .inr (0, [.ref q0, .int (nI n)])), (q0, .inl (T 0, 440, .inl f)), ((rd j), .inr (0, [.ref q1, .int (nI n)])), (q1, .inl (T 0, 440, .inl F_1))]) [0, 1, 4, 5, 2, 3] rfl
  have hD9 := hD.sub (ws' := [(lo, .inr (2, [.ref ra, .ref d0, .ref b0, .ref t0, .ref r0])), (ra, .inl (T 2, 6, .inr (.inr (.inr (.inr (fun j => some (rd j))))))), ((rd i), .inr (0, [.ref q0, .int (nI n)])), (q0, .inl (T 0, 440, .inl f)), ((rd j), .inr (0, [.ref q1, .int (nI n)])), (q1, .inl (T 0, 440, .inl F_1))]) [0, 1, 4, 5, 2, 3] (by decide) rfl
  exact W.iret (v := (nI n)) hx hb hr (fun t ht hW => ⟨⟨F_1, rfl, hq2, (by rw [ht]; exact hP9), va_K.moved hW.alike hK, hD9⟩, hS.F ht⟩) hS.2.2 dX5_copy_24
set_option maxHeartbeats 4000000 in
set_option maxRecDepth 100000 in
theorem c_copy_a (l : Launch) (D : va_G) (T : Nat → ClassId) (g : Nat → Nat) (sz : Nat) (lo : Nat) (ra : Nat) (d0 : Nat) (b0 : Nat) (t0 : Nat) (r0 : Nat) (rd : Nat → Nat) (i : Nat) (q0 : Nat) (f : Nat → Int32) (n : Nat) (hi : i < 6) : MU l yX5_copy wsX5_copy ({ frames := 1, cells := 0, slots := 0, locals := 22 } : Room) D T g [.ref lo, .int (nI i), .int (nI i)] [(lo, .inr (2, [.ref ra, .ref d0, .ref b0, .ref t0, .ref r0])), (ra, .inl (T 2, 6, .inr (.inr (.inr (.inr (fun j => some (rd j))))))), (rd i, .inr (0, [.ref q0, .int (nI n)])), (q0, .inl (T 0, 440, .inl f))] sz (fun u : Unit => some (.int (nI n))) (fun u : Unit => True) (fun u : Unit => [(lo, .inr (2, [.ref ra, .ref d0, .ref b0, .ref t0, .ref r0])), (ra, .inl (T 2, 6, .inr (.inr (.inr (.inr (fun j => some (rd j))))))), (rd i, .inr (0, [.ref q0, .int (nI n)])), (q0, .inl (T 0, 440, .inl f))]) 0 0 := by
  refine Met.ofW (cc := cX5_copy) (maxL := 5) (ret := (some .int)) (by decide) rfl ?_
  intro p e s m args below meth c s₁ B hml hv
  obtain ⟨rfl, hsz, hP, hK, hD0, hG⟩ := hv
  have hx := B.exec
  have hb := B.bytes
  have hr := B.returns
  have hts := atoms_spec (ws := wsX5_copy) B.pre
  have hown : s.vm.findClass RX5 = some m.cls := findClass_of_methodNamed B.named
  have hlocks := B.notSynchronized
  have hi_X2 : ∀ w ∈ wsX20, w ∈ wsX5_copy := by decide +kernel
  subst hsz
  have hD := hD0.self (sz := s.heap.size)
  generalize hAe : va_A [(lo, .inr (2, [.ref ra, .ref d0, .ref b0, .ref t0, .ref r0])), (ra, .inl (T 2, 6, .inr (.inr (.inr (.inr (fun j => some (rd j))))))), (rd i, .inr (0, [.ref q0, .int (nI n)])), (q0, .inl (T 0, 440, .inl f))] s.heap.size = A at hD hG ⊢
  have hA : ∀ q : Nat, s.heap.size ≤ q → A q := fun q h => by rw [← hAe]; exact Or.inr h
  have hS : va_S A s.heap s.heap [] := va_S.rf
  have hP : va_P D cls [(lo, .inr (2, [.ref ra, .ref d0, .ref b0, .ref t0, .ref r0])), (ra, .inl (T 2, 6, .inr (.inr (.inr (.inr (fun j => some (rd j))))))), (rd i, .inr (0, [.ref q0, .int (nI n)])), (q0, .inl (T 0, 440, .inl f))] s.heap := hP
  have hl := lv_entry ([.ref lo, .int (nI i), .int (nI i)]) (n := 5) (Nat.le_of_ble_eq_true rfl)
  rw [lg_entry_eq]
  generalize (lg_sl ([.ref lo, .int (nI i), .int (nI i)]) ++ List.replicate (5 - (lg_sl ([.ref lo, .int (nI i), .int (nI i)])).length) Slot.unset).toArray = ls at hl ⊢
  have hl : lv_has ls 5 [(0, .ref lo), (1, .int (nI i)), (2, .int (nI i))] := hl
  refine lv_aload_n hx hb dX5_copy_0 rfl (lv_at hl 0 rfl) ?_
  refine lv_iload_n hx hb dX5_copy_1 rfl (lv_at hl 1 rfl) ?_
  refine ro_V (As := [.int (nI i)]) (rest := []) (wc := [(lo, .inr (2, [.ref ra, .ref d0, .ref b0, .ref t0, .ref r0])), (ra, .inl (T 2, 6, .inr (.inr (.inr (.inr (fun j => some (rd j)))))))]) (r := .ref (rd i)) ⟨hx, hb, hml, hown, hts⟩ (c_X5_rowAt l D T g lo ra d0 b0 t0 r0 rd i hi) (cwV 1 hts gX5_copy_X5_rowAt rfl rfl rfl (by decide +kernel) ⟨Nat.le_of_ble_eq_true rfl, Nat.le_of_ble_eq_true rfl⟩) (va_recv hK hP (ci := 2) (q0 := 0) rfl rfl) hP hK hG hS [0, 1] rfl ⟨Nat.zero_le _, Nat.zero_le _⟩ rfl hl.1 (Nat.le_of_ble_eq_true rfl) dX5_copy_2 rfl ?_
  refine lv_astore_n (lv' := [(3, .ref (rd i)), (0, .ref lo), (1, .int (nI i)), (2, .int (nI i))]) hx hb dX5_copy_5 rfl hl (by decide) rfl (fun ls hl => ?_)
  refine lv_aload_n hx hb dX5_copy_6 rfl (lv_at hl 1 rfl) ?_
  refine lv_iload_n hx hb dX5_copy_7 rfl (lv_at hl 3 rfl) ?_
  refine ro_V (As := [.int (nI i)]) (rest := []) (wc := [(lo, .inr (2, [.ref ra, .ref d0, .ref b0, .ref t0, .ref r0])), (ra, .inl (T 2, 6, .inr (.inr (.inr (.inr (fun j => some (rd j)))))))]) (r := .ref (rd i)) ⟨hx, hb, hml, hown, hts⟩ (c_X5_rowAt l D T g lo ra d0 b0 t0 r0 rd i hi) (cwV 1 hts gX5_copy_X5_rowAt rfl rfl rfl (by decide +kernel) ⟨Nat.le_of_ble_eq_true rfl, Nat.le_of_ble_eq_true rfl⟩) (va_recv hK hP (ci := 2) (q0 := 0) rfl rfl) hP hK hG hS [0, 1] rfl ⟨Nat.zero_le _, Nat.zero_le _⟩ rfl hl.1 (Nat.le_of_ble_eq_true rfl) dX5_copy_8 rfl ?_
  refine lv_astore (lv' := [(4, .ref (rd i)), (3, .ref (rd i)), (0, .ref lo), (1, .int (nI i)), (2, .int (nI i))]) hx hb dX5_copy_11 hl (by decide) rfl (fun ls hl => ?_)
  refine lv_aload hx hb dX5_copy_13 (lv_at hl 0 rfl) ?_
  refine lv_aload_n hx hb dX5_copy_15 rfl (lv_at hl 1 rfl) ?_
  refine mu_V (As := [.ref (rd i)]) (rest := []) (wc := [(rd i, .inr (0, [.ref q0, .int (nI n)])), (q0, .inl (T 0, 440, .inl f))]) (wr := [(lo, .inr (2, [.ref ra, .ref d0, .ref b0, .ref t0, .ref r0])), (ra, .inl (T 2, 6, .inr (.inr (.inr (.inr (fun j => some (rd j)))))))]) ⟨hx, hb, hml, hown, hts⟩ (c_X2_become_a l D T g s.heap.size (rd i) q0 f n) (cwV 1 hts gX5_copy_X2_become rfl rfl rfl (by decide +kernel) ⟨Nat.le_of_ble_eq_true rfl, Nat.le_of_ble_eq_true rfl⟩) (va_recv hK hP (ci := 0) (q0 := 2) rfl rfl) hP hD hK hG hS hA [2, 3] [0, 1] rfl (by decide) rfl (by decide) (by decide) ⟨Nat.le_of_ble_eq_true rfl, Nat.le_of_ble_eq_true rfl⟩ rfl hl.1 (Nat.le_of_ble_eq_true rfl) dX5_copy_16 rfl (fun u H locs hq1 hP hD hS => ?_)
  have hP : va_P D cls [(lo, .inr (2, [.ref ra, .ref d0, .ref b0, .ref t0, .ref r0])), (ra, .inl (T 2, 6, .inr (.inr (.inr (.inr (fun j => some (rd j))))))), ((rd i), .inr (0, [.ref q0, .int (nI n)])), (q0, .inl (T 0, 440, .inl f))] H := hP
  have hD : va_D A [(lo, .inr (2, [.ref ra, .ref d0, .ref b0, .ref t0, .ref r0])), (ra, .inl (T 2, 6, .inr (.inr (.inr (.inr (fun j => some (rd j))))))), ((rd i), .inr (0, [.ref q0, .int (nI n)])), (q0, .inl (T 0, 440, .inl f))] := hD
  refine W.eq (g2 := F0 m 19 ls []) rfl ?_
  refine lv_aload hx hb dX5_copy_19 (lv_at hl 0 rfl) ?_
  refine va_getN (D := D) (ci := 0) (v := .int (nI n)) (C := RX2) (T := TX2) (N := 2) hx hb hts hi_X2 hown hK hP 2 rfl rfl 1 (by decide) (nx0 hG) (fun _ h9 => h9) rfl dX5_copy_21 ?_
  have hP9 := hP.sub (ws' := [(lo, .inr (2, [.ref ra, .ref d0, .ref b0, .ref t0, .ref r0])), (ra, .inl (T 2, 6, .inr (.inr (.inr (.inr (fun j => some (rd j))))))), ((rd i), .inr (0, [.ref q0, .int (nI n)])), (q0, .inl (T 0, 440, .inl f))]) [0, 1, 2, 3] rfl
  have hD9 := hD.sub (ws' := [(lo, .inr (2, [.ref ra, .ref d0, .ref b0, .ref t0, .ref r0])), (ra, .inl (T 2, 6, .inr (.inr (.inr (.inr (fun j => some (rd j))))))), ((rd i), .inr (0, [.ref q0, .int (nI n)])), (q0, .inl (T 0, 440, .inl f))]) [0, 1, 2, 3] (by decide) rfl
  exact W.iret (v := (nI n)) hx hb hr (fun t ht hW => ⟨⟨(), rfl, trivial, (by rw [ht]; exact hP9), va_K.moved hW.alike hK, hD9⟩, hS.F ht⟩) hS.2.2 dX5_copy_24
set_option maxHeartbeats 4000000 in
set_option maxRecDepth 100000 in
/-- isLike: no such row -/
theorem c_isLike_x1 (l : Launch) (D : va_G) (T : Nat → ClassId) (g : Nat → Nat) (sz : Nat) (hl9 : l.stackTraces = false) (lo : Nat) (ra : Nat) (d0 : Nat) (b0 : Nat) (t0 : Nat) (r0 : Nat) (rd : Nat → Nat) (i : Int32) (hi : i < 0 ∨ ¬ i < nI 6) (x0 : Int32) : TX l yX5_isLike wsX5_isLike ({ frames := 7, cells := 1, slots := 6, locals := 111 } : Room) D T g [.ref lo, .int i, .int x0] [(lo, .inr (2, [.ref ra, .ref d0, .ref b0, .ref t0, .ref r0])), (ra, .inl (T 2, 6, .inr (.inr (.inr (.inr (fun j => some (rd j)))))))] sz "java/lang/IndexOutOfBoundsException" (fun u : Unit => True) (fun u : Unit => [(lo, .inr (2, [.ref ra, .ref d0, .ref b0, .ref t0, .ref r0])), (ra, .inl (T 2, 6, .inr (.inr (.inr (.inr (fun j => some (rd j)))))))]) 1 6 := by
  refine vx_ofW (cc := cX5_isLike) (maxL := 4) (ret := (some .boolean)) (by decide) rfl ?_
  intro p e s m args below meth c s₁ B hml ht hv
  obtain ⟨rfl, hsz, hP, hK, hD0, hG⟩ := hv
  have hx := B.exec
  have hb := B.bytes
  have hr := B.returns
  have hts := atoms_spec (ws := wsX5_isLike) B.pre
  have hown : s.vm.findClass RX5 = some m.cls := findClass_of_methodNamed B.named
  have hlocks := B.notSynchronized
  subst hsz
  have hD := hD0.self (sz := s.heap.size)
  generalize hAe : va_A [(lo, .inr (2, [.ref ra, .ref d0, .ref b0, .ref t0, .ref r0])), (ra, .inl (T 2, 6, .inr (.inr (.inr (.inr (fun j => some (rd j)))))))] s.heap.size = A at hD hG ⊢
  have hA : ∀ q : Nat, s.heap.size ≤ q → A q := fun q h => by rw [← hAe]; exact Or.inr h
  have hS : va_S A s.heap s.heap [] := va_S.rf
  have hP : va_P D cls [(lo, .inr (2, [.ref ra, .ref d0, .ref b0, .ref t0, .ref r0])), (ra, .inl (T 2, 6, .inr (.inr (.inr (.inr (fun j => some (rd j)))))))] s.heap := hP
  have hl := lv_entry ([.ref lo, .int i, .int x0]) (n := 4) (Nat.le_of_ble_eq_true rfl)
  rw [lg_entry_eq]
  generalize (lg_sl ([.ref lo, .int i, .int x0]) ++ List.replicate (4 - (lg_sl ([.ref lo, .int i, .int x0])).length) Slot.unset).toArray = ls at hl ⊢
  have hl : lv_has ls 4 [(0, .ref lo), (1, .int i), (2, .int x0)] := hl
  refine lv_aload_n hx hb dX5_isLike_0 rfl (lv_at hl 0 rfl) ?_
  refine lv_iload_n hx hb dX5_isLike_1 rfl (lv_at hl 1 rfl) ?_
  refine tx_V (As := [.int i]) (rest := []) (wc := [(lo, .inr (2, [.ref ra, .ref d0, .ref b0, .ref t0, .ref r0])), (ra, .inl (T 2, 6, .inr (.inr (.inr (.inr (fun j => some (rd j)))))))]) (wr := []) ⟨hx, hb, hml, hown, hts⟩ (c_X5_rowAt_x l D T g s.heap.size hl9 lo ra d0 b0 t0 r0 rd i hi) (cwV 1 hts gX5_isLike_X5_rowAt rfl rfl rfl (by decide +kernel) ⟨Nat.le_of_ble_eq_true rfl, Nat.le_of_ble_eq_true rfl⟩) (va_recv hK hP (ci := 2) (q0 := 0) rfl rfl) hP hD hK hG hS hA [0, 1] [] rfl (by decide) rfl (by decide) (by decide) ⟨Nat.le_of_ble_eq_true rfl, Nat.le_of_ble_eq_true rfl⟩ rfl hl.1 (Nat.le_of_ble_eq_true rfl) dX5_isLike_2 rfl ht hlocks (fun u t hal hq1 hP hD hFF => ?_) (Nat.le_of_ble_eq_true rfl) (Nat.le_of_ble_eq_true rfl)
  have hP : va_P D cls [(lo, .inr (2, [.ref ra, .ref d0, .ref b0, .ref t0, .ref r0])), (ra, .inl (T 2, 6, .inr (.inr (.inr (.inr (fun j => some (rd j)))))))] t.heap := hP
  have hD : va_D A [(lo, .inr (2, [.ref ra, .ref d0, .ref b0, .ref t0, .ref r0])), (ra, .inl (T 2, 6, .inr (.inr (.inr (.inr (fun j => some (rd j)))))))] := hD
  exact ⟨rfl, ⟨(), trivial, hP.sub (ws' := [(lo, .inr (2, [.ref ra, .ref d0, .ref b0, .ref t0, .ref r0])), (ra, .inl (T 2, 6, .inr (.inr (.inr (.inr (fun j => some (rd j)))))))]) [0, 1] rfl, va_K.moved hal hK, hD.sub (ws' := [(lo, .inr (2, [.ref ra, .ref d0, .ref b0, .ref t0, .ref r0])), (ra, .inl (T 2, 6, .inr (.inr (.inr (.inr (fun j => some (rd j)))))))]) [0, 1] (by decide) rfl⟩, hFF⟩
set_option maxHeartbeats 4000000 in
set_option maxRecDepth 100000 in
/-- isLike: no such other row -/
theorem c_isLike_x2 (l : Launch) (D : va_G) (T : Nat → ClassId) (g : Nat → Nat) (sz : Nat) (hl9 : l.stackTraces = false) (lo : Nat) (ra : Nat) (d0 : Nat) (b0 : Nat) (t0 : Nat) (r0 : Nat) (rd : Nat → Nat) (i : Nat) (hi : i < 6) (j : Int32) (hj : j < 0 ∨ ¬ j < nI 6) : TX l yX5_isLike wsX5_isLike ({ frames := 7, cells := 1, slots := 6, locals := 111 } : Room) D T g [.ref lo, .int (nI i), .int j] [(lo, .inr (2, [.ref ra, .ref d0, .ref b0, .ref t0, .ref r0])), (ra, .inl (T 2, 6, .inr (.inr (.inr (.inr (fun j => some (rd j)))))))] sz "java/lang/IndexOutOfBoundsException" (fun u : Unit => True) (fun u : Unit => [(lo, .inr (2, [.ref ra, .ref d0, .ref b0, .ref t0, .ref r0])), (ra, .inl (T 2, 6, .inr (.inr (.inr (.inr (fun j => some (rd j)))))))]) 1 6 := by
  refine vx_ofW (cc := cX5_isLike) (maxL := 4) (ret := (some .boolean)) (by decide) rfl ?_
  intro p e s m args below meth c s₁ B hml ht hv
  obtain ⟨rfl, hsz, hP, hK, hD0, hG⟩ := hv
  have hx := B.exec
  have hb := B.bytes
  have hr := B.returns
  have hts := atoms_spec (ws := wsX5_isLike) B.pre
  have hown : s.vm.findClass RX5 = some m.cls := findClass_of_methodNamed B.named
  have hlocks := B.notSynchronized
  subst hsz
  have hD := hD0.self (sz := s.heap.size)
  generalize hAe : va_A [(lo, .inr (2, [.ref ra, .ref d0, .ref b0, .ref t0, .ref r0])), (ra, .inl (T 2, 6, .inr (.inr (.inr (.inr (fun j => some (rd j)))))))] s.heap.size = A at hD hG ⊢
  have hA : ∀ q : Nat, s.heap.size ≤ q → A q := fun q h => by rw [← hAe]; exact Or.inr h
  have hS : va_S A s.heap s.heap [] := va_S.rf
  have hP : va_P D cls [(lo, .inr (2, [.ref ra, .ref d0, .ref b0, .ref t0, .ref r0])), (ra, .inl (T 2, 6, .inr (.inr (.inr (.inr (fun j => some (rd j)))))))] s.heap := hP
  have hl := lv_entry ([.ref lo, .int (nI i), .int j]) (n := 4) (Nat.le_of_ble_eq_true rfl)
  rw [lg_entry_eq]
  generalize (lg_sl ([.ref lo, .int (nI i), .int j]) ++ List.replicate (4 - (lg_sl ([.ref lo, .int (nI i), .int j])).length) Slot.unset).toArray = ls at hl ⊢
  have hl : lv_has ls 4 [(0, .ref lo), (1, .int (nI i)), (2, .int j)] := hl
  refine lv_aload_n hx hb dX5_isLike_0 rfl (lv_at hl 0 rfl) ?_
  refine lv_iload_n hx hb dX5_isLike_1 rfl (lv_at hl 1 rfl) ?_
  refine ro_V (As := [.int (nI i)]) (rest := []) (wc := [(lo, .inr (2, [.ref ra, .ref d0, .ref b0, .ref t0, .ref r0])), (ra, .inl (T 2, 6, .inr (.inr (.inr (.inr (fun j => some (rd j)))))))]) (r := .ref (rd i)) ⟨hx, hb, hml, hown, hts⟩ (c_X5_rowAt l D T g lo ra d0 b0 t0 r0 rd i hi) (cwV 1 hts gX5_isLike_X5_rowAt rfl rfl rfl (by decide +kernel) ⟨Nat.le_of_ble_eq_true rfl, Nat.le_of_ble_eq_true rfl⟩) (va_recv hK hP (ci := 2) (q0 := 0) rfl rfl) hP hK hG hS [0, 1] rfl ⟨Nat.zero_le _, Nat.zero_le _⟩ rfl hl.1 (Nat.le_of_ble_eq_true rfl) dX5_isLike_2 rfl ?_
  refine lv_astore_n (lv' := [(3, .ref (rd i)), (0, .ref lo), (1, .int (nI i)), (2, .int j)]) hx hb dX5_isLike_5 rfl hl (by decide) rfl (fun ls hl => ?_)
  refine lv_aload_n hx hb dX5_isLike_6 rfl (lv_at hl 0 rfl) ?_
  refine lv_aload_n hx hb dX5_isLike_7 rfl (lv_at hl 1 rfl) ?_
  refine lv_iload_n hx hb dX5_isLike_8 rfl (lv_at hl 3 rfl) ?_
  refine tx_V (As := [.int j]) (rest := [.ref (rd i)]) (wc := [(lo, .inr (2, [.ref ra, .ref d0, .ref b0, .ref t0, .ref r0])), (ra, .inl (T 2, 6, .inr (.inr (.inr (.inr (fun j => some (rd j)))))))]) (wr := []) ⟨hx, hb, hml, hown, hts⟩ (c_X5_rowAt_x l D T g s.heap.size hl9 lo ra d0 b0 t0 r0 rd j hj) (cwV 1 hts gX5_isLike_X5_rowAt rfl rfl rfl (by decide +kernel) ⟨Nat.le_of_ble_eq_true rfl, Nat.le_of_ble_eq_true rfl⟩) (va_recv hK hP (ci := 2) (q0 := 0) rfl rfl) hP hD hK hG hS hA [0, 1] [] rfl (by decide) rfl (by decide) (by decide) ⟨Nat.le_of_ble_eq_true rfl, Nat.le_of_ble_eq_true rfl⟩ rfl hl.1 (Nat.le_of_ble_eq_true rfl) dX5_isLike_9 rfl ht hlocks (fun u t hal hq1 hP hD hFF => ?_) (Nat.le_of_ble_eq_true rfl) (Nat.le_of_ble_eq_true rfl)
  have hP : va_P D cls [(lo, .inr (2, [.ref ra, .ref d0, .ref b0, .ref t0, .ref r0])), (ra, .inl (T 2, 6, .inr (.inr (.inr (.inr (fun j => some (rd j)))))))] t.heap := hP
  have hD : va_D A [(lo, .inr (2, [.ref ra, .ref d0, .ref b0, .ref t0, .ref r0])), (ra, .inl (T 2, 6, .inr (.inr (.inr (.inr (fun j => some (rd j)))))))] := hD
  exact ⟨rfl, ⟨(), trivial, hP.sub (ws' := [(lo, .inr (2, [.ref ra, .ref d0, .ref b0, .ref t0, .ref r0])), (ra, .inl (T 2, 6, .inr (.inr (.inr (.inr (fun j => some (rd j)))))))]) [0, 1] rfl, va_K.moved hal hK, hD.sub (ws' := [(lo, .inr (2, [.ref ra, .ref d0, .ref b0, .ref t0, .ref r0])), (ra, .inl (T 2, 6, .inr (.inr (.inr (.inr (fun j => some (rd j)))))))]) [0, 1] (by decide) rfl⟩, hFF⟩
set_option maxHeartbeats 4000000 in
set_option maxRecDepth 100000 in
theorem c_isLike (l : Launch) (D : va_G) (T : Nat → ClassId) (g : Nat → Nat) (lo : Nat) (ra : Nat) (d0 : Nat) (b0 : Nat) (t0 : Nat) (r0 : Nat) (rd : Nat → Nat) (i : Nat) (q0 : Nat) (f : Nat → Int32) (n : Nat) (j : Nat) (q1 : Nat) (f1 : Nat → Int32) (n1 : Nat) (b : Nat → Nat) (hb9 : RB f n b) (b1 : Nat → Nat) (hb8 : RB f1 n1 b1) (hi : i < 6) (hj : j < 6) : RO l yX5_isLike wsX5_isLike ({ frames := 3, cells := 0, slots := 0, locals := 64 } : Room) D T g [.ref lo, .int (nI i), .int (nI j)] [(lo, .inr (2, [.ref ra, .ref d0, .ref b0, .ref t0, .ref r0])), (ra, .inl (T 2, 6, .inr (.inr (.inr (.inr (fun j => some (rd j))))))), (rd i, .inr (0, [.ref q0, .int (nI n)])), (q0, .inl (T 0, 440, .inl f)), (rd j, .inr (0, [.ref q1, .int (nI n1)])), (q1, .inl (T 0, 440, .inl f1))] (.int (bI (saB n b n1 b1))) := by
  refine Met.ofW (cc := cX5_isLike) (maxL := 4) (ret := (some .boolean)) (by decide) rfl ?_
  intro p e s m args below meth c s₁ B hml hv
  obtain ⟨rfl, hP, hK, hG⟩ := hv
  have hx := B.exec
  have hb := B.bytes
  have hr := B.returns
  have hts := atoms_spec (ws := wsX5_isLike) B.pre
  have hown : s.vm.findClass RX5 = some m.cls := findClass_of_methodNamed B.named
  have hlocks := B.notSynchronized
  have hS : va_S (fun _ => False) s.heap s.heap [] := va_S.rf
  have hl := lv_entry ([.ref lo, .int (nI i), .int (nI j)]) (n := 4) (Nat.le_of_ble_eq_true rfl)
  rw [lg_entry_eq]
  generalize (lg_sl ([.ref lo, .int (nI i), .int (nI j)]) ++ List.replicate (4 - (lg_sl ([.ref lo, .int (nI i), .int (nI j)])).length) Slot.unset).toArray = ls at hl ⊢
  have hl : lv_has ls 4 [(0, .ref lo), (1, .int (nI i)), (2, .int (nI j))] := hl
  refine lv_aload_n hx hb dX5_isLike_0 rfl (lv_at hl 0 rfl) ?_
  refine lv_iload_n hx hb dX5_isLike_1 rfl (lv_at hl 1 rfl) ?_
  refine ro_V (As := [.int (nI i)]) (rest := []) (wc := [(lo, .inr (2, [.ref ra, .ref d0, .ref b0, .ref t0, .ref r0])), (ra, .inl (T 2, 6, .inr (.inr (.inr (.inr (fun j => some (rd j)))))))]) (r := .ref (rd i)) ⟨hx, hb, hml, hown, hts⟩ (c_X5_rowAt l D T g lo ra d0 b0 t0 r0 rd i hi) (cwV 1 hts gX5_isLike_X5_rowAt rfl rfl rfl (by decide +kernel) ⟨Nat.le_of_ble_eq_true rfl, Nat.le_of_ble_eq_true rfl⟩) (va_recv hK hP (ci := 2) (q0 := 0) rfl rfl) hP hK hG hS [0, 1] rfl ⟨Nat.zero_le _, Nat.zero_le _⟩ rfl hl.1 (Nat.le_of_ble_eq_true rfl) dX5_isLike_2 rfl ?_
  refine lv_astore_n (lv' := [(3, .ref (rd i)), (0, .ref lo), (1, .int (nI i)), (2, .int (nI j))]) hx hb dX5_isLike_5 rfl hl (by decide) rfl (fun ls hl => ?_)
  refine lv_aload_n hx hb dX5_isLike_6 rfl (lv_at hl 0 rfl) ?_
  refine lv_aload_n hx hb dX5_isLike_7 rfl (lv_at hl 1 rfl) ?_
  refine lv_iload_n hx hb dX5_isLike_8 rfl (lv_at hl 3 rfl) ?_
  refine ro_V (As := [.int (nI j)]) (rest := [.ref (rd i)]) (wc := [(lo, .inr (2, [.ref ra, .ref d0, .ref b0, .ref t0, .ref r0])), (ra, .inl (T 2, 6, .inr (.inr (.inr (.inr (fun j => some (rd j)))))))]) (r := .ref (rd j)) ⟨hx, hb, hml, hown, hts⟩ (c_X5_rowAt l D T g lo ra d0 b0 t0 r0 rd j hj) (cwV 1 hts gX5_isLike_X5_rowAt rfl rfl rfl (by decide +kernel) ⟨Nat.le_of_ble_eq_true rfl, Nat.le_of_ble_eq_true rfl⟩) (va_recv hK hP (ci := 2) (q0 := 0) rfl rfl) hP hK hG hS [0, 1] rfl ⟨Nat.zero_le _, Nat.zero_le _⟩ rfl hl.1 (Nat.le_of_ble_eq_true rfl) dX5_isLike_9 rfl ?_
  refine ro_V (As := [.ref (rd j)]) (rest := []) (wc := [(rd i, .inr (0, [.ref q0, .int (nI n)])), (q0, .inl (T 0, 440, .inl f)), (rd j, .inr (0, [.ref q1, .int (nI n1)])), (q1, .inl (T 0, 440, .inl f1))]) (r := .int (bI (saB n b n1 b1))) ⟨hx, hb, hml, hown, hts⟩ (c_X2_sameAs l D T g (rd i) q0 f n (rd j) q1 f1 n1 b b1 (hb9) (hb8)) (cwV 1 hts gX5_isLike_X2_sameAs rfl rfl rfl (by decide +kernel) ⟨Nat.le_of_ble_eq_true rfl, Nat.le_of_ble_eq_true rfl⟩) (va_recv hK hP (ci := 0) (q0 := 2) rfl rfl) hP hK hG hS [2, 3, 4, 5] rfl ⟨Nat.zero_le _, Nat.zero_le _⟩ rfl hl.1 (Nat.le_of_ble_eq_true rfl) dX5_isLike_12 rfl ?_
  exact W.zret (v := (bI (saB n b n1 b1))) (ty := .boolean) hx hb hr (zr_bI _) (fun t ht hW => ⟨(congrArg (fun z => Outcome.returned (some (Value.int z))) (show (bI (saB n b n1 b1)) = (bI (saB n b n1 b1)) from rfl)), ht⟩) (fun q h => nomatch h) dX5_isLike_15
set_option maxHeartbeats 4000000 in
set_option maxRecDepth 100000 in
theorem c_isLike_a (l : Launch) (D : va_G) (T : Nat → ClassId) (g : Nat → Nat) (lo : Nat) (ra : Nat) (d0 : Nat) (b0 : Nat) (t0 : Nat) (r0 : Nat) (rd : Nat → Nat) (i : Nat) (q0 : Nat) (f : Nat → Int32) (n : Nat) (b : Nat → Nat) (hb9 : RB f n b) (hi : i < 6) : RO l yX5_isLike wsX5_isLike ({ frames := 3, cells := 0, slots := 0, locals := 64 } : Room) D T g [.ref lo, .int (nI i), .int (nI i)] [(lo, .inr (2, [.ref ra, .ref d0, .ref b0, .ref t0, .ref r0])), (ra, .inl (T 2, 6, .inr (.inr (.inr (.inr (fun j => some (rd j))))))), (rd i, .inr (0, [.ref q0, .int (nI n)])), (q0, .inl (T 0, 440, .inl f))] (.int (nI 1)) := by
  refine Met.ofW (cc := cX5_isLike) (maxL := 4) (ret := (some .boolean)) (by decide) rfl ?_
  intro p e s m args below meth c s₁ B hml hv
  obtain ⟨rfl, hP, hK, hG⟩ := hv
  have hx := B.exec
  have hb := B.bytes
  have hr := B.returns
  have hts := atoms_spec (ws := wsX5_isLike) B.pre
  have hown : s.vm.findClass RX5 = some m.cls := findClass_of_methodNamed B.named
  have hlocks := B.notSynchronized
  have hS : va_S (fun _ => False) s.heap s.heap [] := va_S.rf
  have hl := lv_entry ([.ref lo, .int (nI i), .int (nI i)]) (n := 4) (Nat.le_of_ble_eq_true rfl)
  rw [lg_entry_eq]
  generalize (lg_sl ([.ref lo, .int (nI i), .int (nI i)]) ++ List.replicate (4 - (lg_sl ([.ref lo, .int (nI i), .int (nI i)])).length) Slot.unset).toArray = ls at hl ⊢
  have hl : lv_has ls 4 [(0, .ref lo), (1, .int (nI i)), (2, .int (nI i))] := hl
  refine lv_aload_n hx hb dX5_isLike_0 rfl (lv_at hl 0 rfl) ?_
  refine lv_iload_n hx hb dX5_isLike_1 rfl (lv_at hl 1 rfl) ?_
  refine ro_V (As := [.int (nI i)]) (rest := []) (wc := [(lo, .inr (2, [.ref ra, .ref d0, .ref b0, .ref t0, .ref r0])), (ra, .inl (T 2, 6, .inr (.inr (.inr (.inr (fun j => some (rd j)))))))]) (r := .ref (rd i)) ⟨hx, hb, hml, hown, hts⟩ (c_X5_rowAt l D T g lo ra d0 b0 t0 r0 rd i hi) (cwV 1 hts gX5_isLike_X5_rowAt rfl rfl rfl (by decide +kernel) ⟨Nat.le_of_ble_eq_true rfl, Nat.le_of_ble_eq_true rfl⟩) (va_recv hK hP (ci := 2) (q0 := 0) rfl rfl) hP hK hG hS [0, 1] rfl ⟨Nat.zero_le _, Nat.zero_le _⟩ rfl hl.1 (Nat.le_of_ble_eq_true rfl) dX5_isLike_2 rfl ?_
  refine lv_astore_n (lv' := [(3, .ref (rd i)), (0, .ref lo), (1, .int (nI i)), (2, .int (nI i))]) hx hb dX5_isLike_5 rfl hl (by decide) rfl (fun ls hl => ?_)
  refine lv_aload_n hx hb dX5_isLike_6 rfl (lv_at hl 0 rfl) ?_
  refine lv_aload_n hx hb dX5_isLike_7 rfl (lv_at hl 1 rfl) ?_
  refine lv_iload_n hx hb dX5_isLike_8 rfl (lv_at hl 3 rfl) ?_
  refine ro_V (As := [.int (nI i)]) (rest := [.ref (rd i)]) (wc := [(lo, .inr (2, [.ref ra, .ref d0, .ref b0, .ref t0, .ref r0])), (ra, .inl (T 2, 6, .inr (.inr (.inr (.inr (fun j => some (rd j)))))))]) (r := .ref (rd i)) ⟨hx, hb, hml, hown, hts⟩ (c_X5_rowAt l D T g lo ra d0 b0 t0 r0 rd i hi) (cwV 1 hts gX5_isLike_X5_rowAt rfl rfl rfl (by decide +kernel) ⟨Nat.le_of_ble_eq_true rfl, Nat.le_of_ble_eq_true rfl⟩) (va_recv hK hP (ci := 2) (q0 := 0) rfl rfl) hP hK hG hS [0, 1] rfl ⟨Nat.zero_le _, Nat.zero_le _⟩ rfl hl.1 (Nat.le_of_ble_eq_true rfl) dX5_isLike_9 rfl ?_
  refine ro_V (As := [.ref (rd i)]) (rest := []) (wc := [(rd i, .inr (0, [.ref q0, .int (nI n)])), (q0, .inl (T 0, 440, .inl f))]) (r := .int (nI 1)) ⟨hx, hb, hml, hown, hts⟩ (c_X2_sameAs_a l D T g (rd i) q0 f n b (hb9)) (cwV 1 hts gX5_isLike_X2_sameAs rfl rfl rfl (by decide +kernel) ⟨Nat.le_of_ble_eq_true rfl, Nat.le_of_ble_eq_true rfl⟩) (va_recv hK hP (ci := 0) (q0 := 2) rfl rfl) hP hK hG hS [2, 3] rfl ⟨Nat.zero_le _, Nat.zero_le _⟩ rfl hl.1 (Nat.le_of_ble_eq_true rfl) dX5_isLike_12 rfl ?_
  exact W.zret (v := (nI 1)) (ty := .boolean) hx hb hr (rfl) (fun t ht hW => ⟨(congrArg (fun z => Outcome.returned (some (Value.int z))) (show (nI 1) = (nI 1) from rfl)), ht⟩) (fun q h => nomatch h) dX5_isLike_15
set_option maxHeartbeats 4000000 in
set_option maxRecDepth 100000 in
/-- write: no such row -/
theorem c_write_x1 (l : Launch) (D : va_G) (T : Nat → ClassId) (g : Nat → Nat) (sz : Nat) (hl9 : l.stackTraces = false) (lo : Nat) (ra : Nat) (d0 : Nat) (b0 : Nat) (t0 : Nat) (r0 : Nat) (rd : Nat → Nat) (i : Int32) (hi : i < 0 ∨ ¬ i < nI 6) (x0 : Int32) (x1 : Int32) (x2 : Int32) : TX l yX5_write wsX5_write ({ frames := 7, cells := 1, slots := 6, locals := 111 } : Room) D T g [.ref lo, .int i, .int x0, .int x1, .int x2] [(lo, .inr (2, [.ref ra, .ref d0, .ref b0, .ref t0, .ref r0])), (ra, .inl (T 2, 6, .inr (.inr (.inr (.inr (fun j => some (rd j)))))))] sz "java/lang/IndexOutOfBoundsException" (fun u : Unit => True) (fun u : Unit => [(lo, .inr (2, [.ref ra, .ref d0, .ref b0, .ref t0, .ref r0])), (ra, .inl (T 2, 6, .inr (.inr (.inr (.inr (fun j => some (rd j)))))))]) 1 6 := by
  refine vx_ofW (cc := cX5_write) (maxL := 8) (ret := (some .int)) (by decide) rfl ?_
  intro p e s m args below meth c s₁ B hml ht hv
  obtain ⟨rfl, hsz, hP, hK, hD0, hG⟩ := hv
  have hx := B.exec
  have hb := B.bytes
  have hr := B.returns
  have hts := atoms_spec (ws := wsX5_write) B.pre
  have hown : s.vm.findClass RX5 = some m.cls := findClass_of_methodNamed B.named
  have hlocks := B.notSynchronized
  subst hsz
  have hD := hD0.self (sz := s.heap.size)
  generalize hAe : va_A [(lo, .inr (2, [.ref ra, .ref d0, .ref b0, .ref t0, .ref r0])), (ra, .inl (T 2, 6, .inr (.inr (.inr (.inr (fun j => some (rd j)))))))] s.heap.size = A at hD hG ⊢
  have hA : ∀ q : Nat, s.heap.size ≤ q → A q := fun q h => by rw [← hAe]; exact Or.inr h
  have hS : va_S A s.heap s.heap [] := va_S.rf
  have hP : va_P D cls [(lo, .inr (2, [.ref ra, .ref d0, .ref b0, .ref t0, .ref r0])), (ra, .inl (T 2, 6, .inr (.inr (.inr (.inr (fun j => some (rd j)))))))] s.heap := hP
  have hl := lv_entry ([.ref lo, .int i, .int x0, .int x1, .int x2]) (n := 8) (Nat.le_of_ble_eq_true rfl)
  rw [lg_entry_eq]
  generalize (lg_sl ([.ref lo, .int i, .int x0, .int x1, .int x2]) ++ List.replicate (8 - (lg_sl ([.ref lo, .int i, .int x0, .int x1, .int x2])).length) Slot.unset).toArray = ls at hl ⊢
  have hl : lv_has ls 8 [(0, .ref lo), (1, .int i), (2, .int x0), (3, .int x1), (4, .int x2)] := hl
  refine lv_aload_n hx hb dX5_write_0 rfl (lv_at hl 0 rfl) ?_
  refine lv_iload_n hx hb dX5_write_1 rfl (lv_at hl 1 rfl) ?_
  refine tx_V (As := [.int i]) (rest := []) (wc := [(lo, .inr (2, [.ref ra, .ref d0, .ref b0, .ref t0, .ref r0])), (ra, .inl (T 2, 6, .inr (.inr (.inr (.inr (fun j => some (rd j)))))))]) (wr := []) ⟨hx, hb, hml, hown, hts⟩ (c_X5_rowAt_x l D T g s.heap.size hl9 lo ra d0 b0 t0 r0 rd i hi) (cwV 1 hts gX5_write_X5_rowAt rfl rfl rfl (by decide +kernel) ⟨Nat.le_of_ble_eq_true rfl, Nat.le_of_ble_eq_true rfl⟩) (va_recv hK hP (ci := 2) (q0 := 0) rfl rfl) hP hD hK hG hS hA [0, 1] [] rfl (by decide) rfl (by decide) (by decide) ⟨Nat.le_of_ble_eq_true rfl, Nat.le_of_ble_eq_true rfl⟩ rfl hl.1 (Nat.le_of_ble_eq_true rfl) dX5_write_2 rfl ht hlocks (fun u t hal hq1 hP hD hFF => ?_) (Nat.le_of_ble_eq_true rfl) (Nat.le_of_ble_eq_true rfl)
  have hP : va_P D cls [(lo, .inr (2, [.ref ra, .ref d0, .ref b0, .ref t0, .ref r0])), (ra, .inl (T 2, 6, .inr (.inr (.inr (.inr (fun j => some (rd j)))))))] t.heap := hP
  have hD : va_D A [(lo, .inr (2, [.ref ra, .ref d0, .ref b0, .ref t0, .ref r0])), (ra, .inl (T 2, 6, .inr (.inr (.inr (.inr (fun j => some (rd j)))))))] := hD
  exact ⟨rfl, ⟨(), trivial, hP.sub (ws' := [(lo, .inr (2, [.ref ra, .ref d0, .ref b0, .ref t0, .ref r0])), (ra, .inl (T 2, 6, .inr (.inr (.inr (.inr (fun j => some (rd j)))))))]) [0, 1] rfl, va_K.moved hal hK, hD.sub (ws' := [(lo, .inr (2, [.ref ra, .ref d0, .ref b0, .ref t0, .ref r0])), (ra, .inl (T 2, 6, .inr (.inr (.inr (.inr (fun j => some (rd j)))))))]) [0, 1] (by decide) rfl⟩, hFF⟩
set_option maxHeartbeats 4000000 in
set_option maxRecDepth 100000 in
/-- write: no such other row -/
theorem c_write_x2 (l : Launch) (D : va_G) (T : Nat → ClassId) (g : Nat → Nat) (sz : Nat) (hl9 : l.stackTraces = false) (lo : Nat) (ra : Nat) (d0 : Nat) (b0 : Nat) (t0 : Nat) (r0 : Nat) (rd : Nat → Nat) (i : Nat) (hi : i < 6) (j : Int32) (hj : j < 0 ∨ ¬ j < nI 6) (x0 : Int32) (x1 : Int32) : TX l yX5_write wsX5_write ({ frames := 7, cells := 1, slots := 6, locals := 111 } : Room) D T g [.ref lo, .int (nI i), .int j, .int x0, .int x1] [(lo, .inr (2, [.ref ra, .ref d0, .ref b0, .ref t0, .ref r0])), (ra, .inl (T 2, 6, .inr (.inr (.inr (.inr (fun j => some (rd j)))))))] sz "java/lang/IndexOutOfBoundsException" (fun u : Unit => True) (fun u : Unit => [(lo, .inr (2, [.ref ra, .ref d0, .ref b0, .ref t0, .ref r0])), (ra, .inl (T 2, 6, .inr (.inr (.inr (.inr (fun j => some (rd j)))))))]) 1 6 := by
  refine vx_ofW (cc := cX5_write) (maxL := 8) (ret := (some .int)) (by decide) rfl ?_
  intro p e s m args below meth c s₁ B hml ht hv
  obtain ⟨rfl, hsz, hP, hK, hD0, hG⟩ := hv
  have hx := B.exec
  have hb := B.bytes
  have hr := B.returns
  have hts := atoms_spec (ws := wsX5_write) B.pre
  have hown : s.vm.findClass RX5 = some m.cls := findClass_of_methodNamed B.named
  have hlocks := B.notSynchronized
  subst hsz
  have hD := hD0.self (sz := s.heap.size)
  generalize hAe : va_A [(lo, .inr (2, [.ref ra, .ref d0, .ref b0, .ref t0, .ref r0])), (ra, .inl (T 2, 6, .inr (.inr (.inr (.inr (fun j => some (rd j)))))))] s.heap.size = A at hD hG ⊢
  have hA : ∀ q : Nat, s.heap.size ≤ q → A q := fun q h => by rw [← hAe]; exact Or.inr h
  have hS : va_S A s.heap s.heap [] := va_S.rf
  have hP : va_P D cls [(lo, .inr (2, [.ref ra, .ref d0, .ref b0, .ref t0, .ref r0])), (ra, .inl (T 2, 6, .inr (.inr (.inr (.inr (fun j => some (rd j)))))))] s.heap := hP
  have hl := lv_entry ([.ref lo, .int (nI i), .int j, .int x0, .int x1]) (n := 8) (Nat.le_of_ble_eq_true rfl)
  rw [lg_entry_eq]
  generalize (lg_sl ([.ref lo, .int (nI i), .int j, .int x0, .int x1]) ++ List.replicate (8 - (lg_sl ([.ref lo, .int (nI i), .int j, .int x0, .int x1])).length) Slot.unset).toArray = ls at hl ⊢
  have hl : lv_has ls 8 [(0, .ref lo), (1, .int (nI i)), (2, .int j), (3, .int x0), (4, .int x1)] := hl
  refine lv_aload_n hx hb dX5_write_0 rfl (lv_at hl 0 rfl) ?_
  refine lv_iload_n hx hb dX5_write_1 rfl (lv_at hl 1 rfl) ?_
  refine ro_V (As := [.int (nI i)]) (rest := []) (wc := [(lo, .inr (2, [.ref ra, .ref d0, .ref b0, .ref t0, .ref r0])), (ra, .inl (T 2, 6, .inr (.inr (.inr (.inr (fun j => some (rd j)))))))]) (r := .ref (rd i)) ⟨hx, hb, hml, hown, hts⟩ (c_X5_rowAt l D T g lo ra d0 b0 t0 r0 rd i hi) (cwV 1 hts gX5_write_X5_rowAt rfl rfl rfl (by decide +kernel) ⟨Nat.le_of_ble_eq_true rfl, Nat.le_of_ble_eq_true rfl⟩) (va_recv hK hP (ci := 2) (q0 := 0) rfl rfl) hP hK hG hS [0, 1] rfl ⟨Nat.zero_le _, Nat.zero_le _⟩ rfl hl.1 (Nat.le_of_ble_eq_true rfl) dX5_write_2 rfl ?_
  refine lv_astore (lv' := [(5, .ref (rd i)), (0, .ref lo), (1, .int (nI i)), (2, .int j), (3, .int x0), (4, .int x1)]) hx hb dX5_write_5 hl (by decide) rfl (fun ls hl => ?_)
  refine lv_aload_n hx hb dX5_write_7 rfl (lv_at hl 1 rfl) ?_
  refine lv_iload_n hx hb dX5_write_8 rfl (lv_at hl 3 rfl) ?_
  refine tx_V (As := [.int j]) (rest := []) (wc := [(lo, .inr (2, [.ref ra, .ref d0, .ref b0, .ref t0, .ref r0])), (ra, .inl (T 2, 6, .inr (.inr (.inr (.inr (fun j => some (rd j)))))))]) (wr := []) ⟨hx, hb, hml, hown, hts⟩ (c_X5_rowAt_x l D T g s.heap.size hl9 lo ra d0 b0 t0 r0 rd j hj) (cwV 1 hts gX5_write_X5_rowAt rfl rfl rfl (by decide +kernel) ⟨Nat.le_of_ble_eq_true rfl, Nat.le_of_ble_eq_true rfl⟩) (va_recv hK hP (ci := 2) (q0 := 0) rfl rfl) hP hD hK hG hS hA [0, 1] [] rfl (by decide) rfl (by decide) (by decide) ⟨Nat.le_of_ble_eq_true rfl, Nat.le_of_ble_eq_true rfl⟩ rfl hl.1 (Nat.le_of_ble_eq_true rfl) dX5_write_9 rfl ht hlocks (fun u t hal hq1 hP hD hFF => ?_) (Nat.le_of_ble_eq_true rfl) (Nat.le_of_ble_eq_true rfl)
  have hP : va_P D cls [(lo, .inr (2, [.ref ra, .ref d0, .ref b0, .ref t0, .ref r0])), (ra, .inl (T 2, 6, .inr (.inr (.inr (.inr (fun j => some (rd j)))))))] t.heap := hP
  have hD : va_D A [(lo, .inr (2, [.ref ra, .ref d0, .ref b0, .ref t0, .ref r0])), (ra, .inl (T 2, 6, .inr (.inr (.inr (.inr (fun j => some (rd j)))))))] := hD
  exact ⟨rfl, ⟨(), trivial, hP.sub (ws' := [(lo, .inr (2, [.ref ra, .ref d0, .ref b0, .ref t0, .ref r0])), (ra, .inl (T 2, 6, .inr (.inr (.inr (.inr (fun j => some (rd j)))))))]) [0, 1] rfl, va_K.moved hal hK, hD.sub (ws' := [(lo, .inr (2, [.ref ra, .ref d0, .ref b0, .ref t0, .ref r0])), (ra, .inl (T 2, 6, .inr (.inr (.inr (.inr (fun j => some (rd j)))))))]) [0, 1] (by decide) rfl⟩, hFF⟩
set_option maxHeartbeats 4000000 in
set_option maxRecDepth 100000 in
theorem c_write_x3 (l : Launch) (D : va_G) (T : Nat → ClassId) (g : Nat → Nat) (sz : Nat) (hl9 : l.stackTraces = false) (lo : Nat) (ra : Nat) (d0 : Nat) (b0 : Nat) (t0 : Nat) (r0 : Nat) (rd : Nat → Nat) (i : Nat) (j : Nat) (hi : i < 6) (hj : j < 6) (k : Int32) (hk : k < 0 ∨ ¬ k < nI 3) (x0 : Int32) : TX l yX5_write wsX5_write ({ frames := 7, cells := 1, slots := 6, locals := 110 } : Room) D T g [.ref lo, .int (nI i), .int (nI j), .int k, .int x0] [(lo, .inr (2, [.ref ra, .ref d0, .ref b0, .ref t0, .ref r0])), (ra, .inl (T 2, 6, .inr (.inr (.inr (.inr (fun j => some (rd j)))))))] sz "java/lang/IllegalArgumentException" (fun u : Unit => True) (fun u : Unit => [(lo, .inr (2, [.ref ra, .ref d0, .ref b0, .ref t0, .ref r0])), (ra, .inl (T 2, 6, .inr (.inr (.inr (.inr (fun j => some (rd j)))))))]) 1 6 := by
  refine vx_ofW (cc := cX5_write) (maxL := 8) (ret := (some .int)) (by decide) rfl ?_
  intro p e s m args below meth c s₁ B hml ht hv
  obtain ⟨rfl, hsz, hP, hK, hD0, hG⟩ := hv
  have hx := B.exec
  have hb := B.bytes
  have hr := B.returns
  have hts := atoms_spec (ws := wsX5_write) B.pre
  have hown : s.vm.findClass RX5 = some m.cls := findClass_of_methodNamed B.named
  have hlocks := B.notSynchronized
  subst hsz
  have hD := hD0.self (sz := s.heap.size)
  generalize hAe : va_A [(lo, .inr (2, [.ref ra, .ref d0, .ref b0, .ref t0, .ref r0])), (ra, .inl (T 2, 6, .inr (.inr (.inr (.inr (fun j => some (rd j)))))))] s.heap.size = A at hD hG ⊢
  have hA : ∀ q : Nat, s.heap.size ≤ q → A q := fun q h => by rw [← hAe]; exact Or.inr h
  have hS : va_S A s.heap s.heap [] := va_S.rf
  have hP : va_P D cls [(lo, .inr (2, [.ref ra, .ref d0, .ref b0, .ref t0, .ref r0])), (ra, .inl (T 2, 6, .inr (.inr (.inr (.inr (fun j => some (rd j)))))))] s.heap := hP
  have hl := lv_entry ([.ref lo, .int (nI i), .int (nI j), .int k, .int x0]) (n := 8) (Nat.le_of_ble_eq_true rfl)
  rw [lg_entry_eq]
  generalize (lg_sl ([.ref lo, .int (nI i), .int (nI j), .int k, .int x0]) ++ List.replicate (8 - (lg_sl ([.ref lo, .int (nI i), .int (nI j), .int k, .int x0])).length) Slot.unset).toArray = ls at hl ⊢
  have hl : lv_has ls 8 [(0, .ref lo), (1, .int (nI i)), (2, .int (nI j)), (3, .int k), (4, .int x0)] := hl
  refine lv_aload_n hx hb dX5_write_0 rfl (lv_at hl 0 rfl) ?_
  refine lv_iload_n hx hb dX5_write_1 rfl (lv_at hl 1 rfl) ?_
  refine ro_V (As := [.int (nI i)]) (rest := []) (wc := [(lo, .inr (2, [.ref ra, .ref d0, .ref b0, .ref t0, .ref r0])), (ra, .inl (T 2, 6, .inr (.inr (.inr (.inr (fun j => some (rd j)))))))]) (r := .ref (rd i)) ⟨hx, hb, hml, hown, hts⟩ (c_X5_rowAt l D T g lo ra d0 b0 t0 r0 rd i hi) (cwV 1 hts gX5_write_X5_rowAt rfl rfl rfl (by decide +kernel) ⟨Nat.le_of_ble_eq_true rfl, Nat.le_of_ble_eq_true rfl⟩) (va_recv hK hP (ci := 2) (q0 := 0) rfl rfl) hP hK hG hS [0, 1] rfl ⟨Nat.zero_le _, Nat.zero_le _⟩ rfl hl.1 (Nat.le_of_ble_eq_true rfl) dX5_write_2 rfl ?_
  refine lv_astore (lv' := [(5, .ref (rd i)), (0, .ref lo), (1, .int (nI i)), (2, .int (nI j)), (3, .int k), (4, .int x0)]) hx hb dX5_write_5 hl (by decide) rfl (fun ls hl => ?_)
  refine lv_aload_n hx hb dX5_write_7 rfl (lv_at hl 1 rfl) ?_
  refine lv_iload_n hx hb dX5_write_8 rfl (lv_at hl 3 rfl) ?_
  refine ro_V (As := [.int (nI j)]) (rest := []) (wc := [(lo, .inr (2, [.ref ra, .ref d0, .ref b0, .ref t0, .ref r0])), (ra, .inl (T 2, 6, .inr (.inr (.inr (.inr (fun j => some (rd j)))))))]) (r := .ref (rd j)) ⟨hx, hb, hml, hown, hts⟩ (c_X5_rowAt l D T g lo ra d0 b0 t0 r0 rd j hj) (cwV 1 hts gX5_write_X5_rowAt rfl rfl rfl (by decide +kernel) ⟨Nat.le_of_ble_eq_true rfl, Nat.le_of_ble_eq_true rfl⟩) (va_recv hK hP (ci := 2) (q0 := 0) rfl rfl) hP hK hG hS [0, 1] rfl ⟨Nat.zero_le _, Nat.zero_le _⟩ rfl hl.1 (Nat.le_of_ble_eq_true rfl) dX5_write_9 rfl ?_
  refine lv_astore (lv' := [(6, .ref (rd j)), (5, .ref (rd i)), (0, .ref lo), (1, .int (nI i)), (2, .int (nI j)), (3, .int k), (4, .int x0)]) hx hb dX5_write_12 hl (by decide) rfl (fun ls hl => ?_)
  refine lv_iload_n hx hb dX5_write_14 rfl (lv_at hl 5 rfl) ?_
  refine tx_S (As := [.int k]) (rest := []) (wc := []) (wr := [(lo, .inr (2, [.ref ra, .ref d0, .ref b0, .ref t0, .ref r0])), (ra, .inl (T 2, 6, .inr (.inr (.inr (.inr (fun j => some (rd j)))))))]) ⟨hx, hb, hml, hown, hts⟩ (c_X5_kindAt_x l D T g s.heap.size hl9 k hk) (va_cwS 1 hts gX5_write_X5_kindAt rfl rfl rfl (by decide +kernel) ⟨Nat.le_of_ble_eq_true rfl, Nat.le_of_ble_eq_true rfl⟩) hP hD hK hG hS hA [] [0, 1] rfl (by decide) rfl (by decide) (by decide) ⟨Nat.le_of_ble_eq_true rfl, Nat.le_of_ble_eq_true rfl⟩ rfl hl.1 (Nat.le_of_ble_eq_true rfl) dX5_write_15 rfl ht hlocks (fun u t hal hq1 hP hD hFF => ?_) (Nat.le_of_ble_eq_true rfl) (Nat.le_of_ble_eq_true rfl)
  have hP : va_P D cls [(lo, .inr (2, [.ref ra, .ref d0, .ref b0, .ref t0, .ref r0])), (ra, .inl (T 2, 6, .inr (.inr (.inr (.inr (fun j => some (rd j)))))))] t.heap := hP
  have hD : va_D A [(lo, .inr (2, [.ref ra, .ref d0, .ref b0, .ref t0, .ref r0])), (ra, .inl (T 2, 6, .inr (.inr (.inr (.inr (fun j => some (rd j)))))))] := hD
  exact ⟨rfl, ⟨(), trivial, hP.sub (ws' := [(lo, .inr (2, [.ref ra, .ref d0, .ref b0, .ref t0, .ref r0])), (ra, .inl (T 2, 6, .inr (.inr (.inr (.inr (fun j => some (rd j)))))))]) [0, 1] rfl, va_K.moved hal hK, hD.sub (ws' := [(lo, .inr (2, [.ref ra, .ref d0, .ref b0, .ref t0, .ref r0])), (ra, .inl (T 2, 6, .inr (.inr (.inr (.inr (fun j => some (rd j)))))))]) [0, 1] (by decide) rfl⟩, hFF⟩
set_option maxHeartbeats 4000000 in
set_option maxRecDepth 100000 in
theorem c_write_x4 (l : Launch) (D : va_G) (T : Nat → ClassId) (g : Nat → Nat) (sz : Nat) (hl9 : l.stackTraces = false) (lo : Nat) (ra : Nat) (d0 : Nat) (b0 : Nat) (t0 : Nat) (r0 : Nat) (rd : Nat → Nat) (i : Nat) (q0 : Nat) (f : Nat → Int32) (n : Nat) (j : Nat) (k : Nat) (hk : k < 3) (fl : Nat) (hi : i < 6) (hj : j < 6) (hn : n ≤ 320 ∧ fl < 2) (hm : 320 < lnN k n fl) : TX l yX5_write wsX5_write ({ frames := 7, cells := 1, slots := 6, locals := 110 } : Room) D T g [.ref lo, .int (nI i), .int (nI j), .int (nI k), .int (nI fl)] [(lo, .inr (2, [.ref ra, .ref d0, .ref b0, .ref t0, .ref r0])), (ra, .inl (T 2, 6, .inr (.inr (.inr (.inr (fun j => some (rd j))))))), (rd i, .inr (0, [.ref q0, .int (nI n)])), (q0, .inl (T 0, 440, .inl f))] sz "java/lang/IllegalStateException" (fun u : Unit => True) (fun u : Unit => [(lo, .inr (2, [.ref ra, .ref d0, .ref b0, .ref t0, .ref r0])), (ra, .inl (T 2, 6, .inr (.inr (.inr (.inr (fun j => some (rd j))))))), (rd i, .inr (0, [.ref q0, .int (nI n)])), (q0, .inl (T 0, 440, .inl f))]) 1 6 := by
  refine vx_ofW (cc := cX5_write) (maxL := 8) (ret := (some .int)) (by decide) rfl ?_
  intro p e s m args below meth c s₁ B hml ht hv
  obtain ⟨rfl, hsz, hP, hK, hD0, hG⟩ := hv
  have hx := B.exec
  have hb := B.bytes
  have hr := B.returns
  have hts := atoms_spec (ws := wsX5_write) B.pre
  have hown : s.vm.findClass RX5 = some m.cls := findClass_of_methodNamed B.named
  have hlocks := B.notSynchronized
  have hi_X2 : ∀ w ∈ wsX20, w ∈ wsX5_write := by decide +kernel
  subst hsz
  have hD := hD0.self (sz := s.heap.size)
  generalize hAe : va_A [(lo, .inr (2, [.ref ra, .ref d0, .ref b0, .ref t0, .ref r0])), (ra, .inl (T 2, 6, .inr (.inr (.inr (.inr (fun j => some (rd j))))))), (rd i, .inr (0, [.ref q0, .int (nI n)])), (q0, .inl (T 0, 440, .inl f))] s.heap.size = A at hD hG ⊢
  have hA : ∀ q : Nat, s.heap.size ≤ q → A q := fun q h => by rw [← hAe]; exact Or.inr h
  have hS : va_S A s.heap s.heap [] := va_S.rf
  have hP : va_P D cls [(lo, .inr (2, [.ref ra, .ref d0, .ref b0, .ref t0, .ref r0])), (ra, .inl (T 2, 6, .inr (.inr (.inr (.inr (fun j => some (rd j))))))), (rd i, .inr (0, [.ref q0, .int (nI n)])), (q0, .inl (T 0, 440, .inl f))] s.heap := hP
  have hl := lv_entry ([.ref lo, .int (nI i), .int (nI j), .int (nI k), .int (nI fl)]) (n := 8) (Nat.le_of_ble_eq_true rfl)
  rw [lg_entry_eq]
  generalize (lg_sl ([.ref lo, .int (nI i), .int (nI j), .int (nI k), .int (nI fl)]) ++ List.replicate (8 - (lg_sl ([.ref lo, .int (nI i), .int (nI j), .int (nI k), .int (nI fl)])).length) Slot.unset).toArray = ls at hl ⊢
  have hl : lv_has ls 8 [(0, .ref lo), (1, .int (nI i)), (2, .int (nI j)), (3, .int (nI k)), (4, .int (nI fl))] := hl
  have hle := lnN_le (k := k) (fl := fl) hn.1
  refine lv_aload_n hx hb dX5_write_0 rfl (lv_at hl 0 rfl) ?_
  refine lv_iload_n hx hb dX5_write_1 rfl (lv_at hl 1 rfl) ?_
  refine ro_V (As := [.int (nI i)]) (rest := []) (wc := [(lo, .inr (2, [.ref ra, .ref d0, .ref b0, .ref t0, .ref r0])), (ra, .inl (T 2, 6, .inr (.inr (.inr (.inr (fun j => some (rd j)))))))]) (r := .ref (rd i)) ⟨hx, hb, hml, hown, hts⟩ (c_X5_rowAt l D T g lo ra d0 b0 t0 r0 rd i hi) (cwV 1 hts gX5_write_X5_rowAt rfl rfl rfl (by decide +kernel) ⟨Nat.le_of_ble_eq_true rfl, Nat.le_of_ble_eq_true rfl⟩) (va_recv hK hP (ci := 2) (q0 := 0) rfl rfl) hP hK hG hS [0, 1] rfl ⟨Nat.zero_le _, Nat.zero_le _⟩ rfl hl.1 (Nat.le_of_ble_eq_true rfl) dX5_write_2 rfl ?_
  refine lv_astore (lv' := [(5, .ref (rd i)), (0, .ref lo), (1, .int (nI i)), (2, .int (nI j)), (3, .int (nI k)), (4, .int (nI fl))]) hx hb dX5_write_5 hl (by decide) rfl (fun ls hl => ?_)
  refine lv_aload_n hx hb dX5_write_7 rfl (lv_at hl 1 rfl) ?_
  refine lv_iload_n hx hb dX5_write_8 rfl (lv_at hl 3 rfl) ?_
  refine ro_V (As := [.int (nI j)]) (rest := []) (wc := [(lo, .inr (2, [.ref ra, .ref d0, .ref b0, .ref t0, .ref r0])), (ra, .inl (T 2, 6, .inr (.inr (.inr (.inr (fun j => some (rd j)))))))]) (r := .ref (rd j)) ⟨hx, hb, hml, hown, hts⟩ (c_X5_rowAt l D T g lo ra d0 b0 t0 r0 rd j hj) (cwV 1 hts gX5_write_X5_rowAt rfl rfl rfl (by decide +kernel) ⟨Nat.le_of_ble_eq_true rfl, Nat.le_of_ble_eq_true rfl⟩) (va_recv hK hP (ci := 2) (q0 := 0) rfl rfl) hP hK hG hS [0, 1] rfl ⟨Nat.zero_le _, Nat.zero_le _⟩ rfl hl.1 (Nat.le_of_ble_eq_true rfl) dX5_write_9 rfl ?_
  refine lv_astore (lv' := [(6, .ref (rd j)), (5, .ref (rd i)), (0, .ref lo), (1, .int (nI i)), (2, .int (nI j)), (3, .int (nI k)), (4, .int (nI fl))]) hx hb dX5_write_12 hl (by decide) rfl (fun ls hl => ?_)
  refine lv_iload_n hx hb dX5_write_14 rfl (lv_at hl 5 rfl) ?_
  refine ro_S (As := [.int (nI k)]) (rest := []) (wc := []) (r := .ref (g k)) ⟨hx, hb, hml, hown, hts⟩ (c_X5_kindAt l D T g k hk) (va_cwS 1 hts gX5_write_X5_kindAt rfl rfl rfl (by decide +kernel) ⟨Nat.le_of_ble_eq_true rfl, Nat.le_of_ble_eq_true rfl⟩) hP hK hG hS [] rfl ⟨Nat.zero_le _, Nat.zero_le _⟩ rfl hl.1 (Nat.le_of_ble_eq_true rfl) dX5_write_15 rfl ?_
  refine lv_astore (lv' := [(7, .ref (g k)), (6, .ref (rd j)), (5, .ref (rd i)), (0, .ref lo), (1, .int (nI i)), (2, .int (nI j)), (3, .int (nI k)), (4, .int (nI fl))]) hx hb dX5_write_18 hl (by decide) rfl (fun ls hl => ?_)
  refine lv_aload hx hb dX5_write_20 (lv_at hl 2 rfl) ?_
  refine va_getN (D := D) (ci := 0) (v := .int (nI n)) (C := RX2) (T := TX2) (N := 2) hx hb hts hi_X2 hown hK hP 2 rfl rfl 1 (by decide) (nx0 hG) (fun _ h9 => h9) rfl dX5_write_22 ?_
  refine lv_aload hx hb dX5_write_25 (lv_at hl 0 rfl) ?_
  refine lv_iload hx hb dX5_write_27 (lv_at hl 7 rfl) ?_
  refine ro_S (As := [.int (nI n), .ref (g k), .int (nI fl)]) (rest := []) (wc := []) (r := .int (nI (lnN k n fl))) ⟨hx, hb, hml, hown, hts⟩ (c_X4_lengthOf l D T g n k fl hk hn) (va_cwS 3 hts gX5_write_X4_lengthOf rfl rfl rfl (by decide +kernel) ⟨Nat.le_of_ble_eq_true rfl, Nat.le_of_ble_eq_true rfl⟩) hP hK hG hS [] rfl ⟨Nat.zero_le _, Nat.zero_le _⟩ rfl hl.1 (Nat.le_of_ble_eq_true rfl) dX5_write_29 rfl ?_
  refine tx_S (As := [.int (nI (lnN k n fl))]) (rest := []) (wc := []) (wr := [(lo, .inr (2, [.ref ra, .ref d0, .ref b0, .ref t0, .ref r0])), (ra, .inl (T 2, 6, .inr (.inr (.inr (.inr (fun j => some (rd j))))))), (rd i, .inr (0, [.ref q0, .int (nI n)])), (q0, .inl (T 0, 440, .inl f))]) ⟨hx, hb, hml, hown, hts⟩ (c_X5_checkRoom_x l D T g s.heap.size hl9 (lnN k n fl) (by omega)) (va_cwS 1 hts gX5_write_X5_checkRoom rfl rfl rfl (by decide +kernel) ⟨Nat.le_of_ble_eq_true rfl, Nat.le_of_ble_eq_true rfl⟩) hP hD hK hG hS hA [] [0, 1, 2, 3] rfl (by decide) rfl (by decide) (by decide) ⟨Nat.le_of_ble_eq_true rfl, Nat.le_of_ble_eq_true rfl⟩ rfl hl.1 (Nat.le_of_ble_eq_true rfl) dX5_write_32 rfl ht hlocks (fun u t hal hq1 hP hD hFF => ?_) (Nat.le_of_ble_eq_true rfl) (Nat.le_of_ble_eq_true rfl)
  have hP : va_P D cls [(lo, .inr (2, [.ref ra, .ref d0, .ref b0, .ref t0, .ref r0])), (ra, .inl (T 2, 6, .inr (.inr (.inr (.inr (fun j => some (rd j))))))), (rd i, .inr (0, [.ref q0, .int (nI n)])), (q0, .inl (T 0, 440, .inl f))] t.heap := hP
  have hD : va_D A [(lo, .inr (2, [.ref ra, .ref d0, .ref b0, .ref t0, .ref r0])), (ra, .inl (T 2, 6, .inr (.inr (.inr (.inr (fun j => some (rd j))))))), (rd i, .inr (0, [.ref q0, .int (nI n)])), (q0, .inl (T 0, 440, .inl f))] := hD
  exact ⟨rfl, ⟨(), trivial, hP.sub (ws' := [(lo, .inr (2, [.ref ra, .ref d0, .ref b0, .ref t0, .ref r0])), (ra, .inl (T 2, 6, .inr (.inr (.inr (.inr (fun j => some (rd j))))))), (rd i, .inr (0, [.ref q0, .int (nI n)])), (q0, .inl (T 0, 440, .inl f))]) [0, 1, 2, 3] rfl, va_K.moved hal hK, hD.sub (ws' := [(lo, .inr (2, [.ref ra, .ref d0, .ref b0, .ref t0, .ref r0])), (ra, .inl (T 2, 6, .inr (.inr (.inr (.inr (fun j => some (rd j))))))), (rd i, .inr (0, [.ref q0, .int (nI n)])), (q0, .inl (T 0, 440, .inl f))]) [0, 1, 2, 3] (by decide) rfl⟩, hFF⟩
set_option maxHeartbeats 4000000 in
set_option maxRecDepth 100000 in
/-- writeText: no such row -/
theorem c_writeText_x1 (l : Launch) (D : va_G) (T : Nat → ClassId) (g : Nat → Nat) (sz : Nat) (hl9 : l.stackTraces = false) (lo : Nat) (ra : Nat) (d0 : Nat) (b0 : Nat) (t0 : Nat) (r0 : Nat) (rd : Nat → Nat) (i : Int32) (hi : i < 0 ∨ ¬ i < nI 6) (x0 : Int32) (x1 : Int32) (x2 : Int32) : TX l yX5_writeText wsX5_writeText ({ frames := 7, cells := 1, slots := 6, locals := 111 } : Room) D T g [.ref lo, .int i, .int x0, .int x1, .int x2] [(lo, .inr (2, [.ref ra, .ref d0, .ref b0, .ref t0, .ref r0])), (ra, .inl (T 2, 6, .inr (.inr (.inr (.inr (fun j => some (rd j)))))))] sz "java/lang/IndexOutOfBoundsException" (fun u : Unit => True) (fun u : Unit => [(lo, .inr (2, [.ref ra, .ref d0, .ref b0, .ref t0, .ref r0])), (ra, .inl (T 2, 6, .inr (.inr (.inr (.inr (fun j => some (rd j)))))))]) 1 6 := by
  refine vx_ofW (cc := cX5_writeText) (maxL := 8) (ret := (some .int)) (by decide) rfl ?_
  intro p e s m args below meth c s₁ B hml ht hv
  obtain ⟨rfl, hsz, hP, hK, hD0, hG⟩ := hv
  have hx := B.exec
  have hb := B.bytes
  have hr := B.returns
  have hts := atoms_spec (ws := wsX5_writeText) B.pre
  have hown : s.vm.findClass RX5 = some m.cls := findClass_of_methodNamed B.named
  have hlocks := B.notSynchronized
  subst hsz
  have hD := hD0.self (sz := s.heap.size)
  generalize hAe : va_A [(lo, .inr (2, [.ref ra, .ref d0, .ref b0, .ref t0, .ref r0])), (ra, .inl (T 2, 6, .inr (.inr (.inr (.inr (fun j => some (rd j)))))))] s.heap.size = A at hD hG ⊢
  have hA : ∀ q : Nat, s.heap.size ≤ q → A q := fun q h => by rw [← hAe]; exact Or.inr h
  have hS : va_S A s.heap s.heap [] := va_S.rf
  have hP : va_P D cls [(lo, .inr (2, [.ref ra, .ref d0, .ref b0, .ref t0, .ref r0])), (ra, .inl (T 2, 6, .inr (.inr (.inr (.inr (fun j => some (rd j)))))))] s.heap := hP
  have hl := lv_entry ([.ref lo, .int i, .int x0, .int x1, .int x2]) (n := 8) (Nat.le_of_ble_eq_true rfl)
  rw [lg_entry_eq]
  generalize (lg_sl ([.ref lo, .int i, .int x0, .int x1, .int x2]) ++ List.replicate (8 - (lg_sl ([.ref lo, .int i, .int x0, .int x1, .int x2])).length) Slot.unset).toArray = ls at hl ⊢
  have hl : lv_has ls 8 [(0, .ref lo), (1, .int i), (2, .int x0), (3, .int x1), (4, .int x2)] := hl
  refine lv_aload_n hx hb dX5_writeText_0 rfl (lv_at hl 0 rfl) ?_
  refine lv_iload_n hx hb dX5_writeText_1 rfl (lv_at hl 1 rfl) ?_
  refine tx_V (As := [.int i]) (rest := []) (wc := [(lo, .inr (2, [.ref ra, .ref d0, .ref b0, .ref t0, .ref r0])), (ra, .inl (T 2, 6, .inr (.inr (.inr (.inr (fun j => some (rd j)))))))]) (wr := []) ⟨hx, hb, hml, hown, hts⟩ (c_X5_rowAt_x l D T g s.heap.size hl9 lo ra d0 b0 t0 r0 rd i hi) (cwV 1 hts gX5_writeText_X5_rowAt rfl rfl rfl (by decide +kernel) ⟨Nat.le_of_ble_eq_true rfl, Nat.le_of_ble_eq_true rfl⟩) (va_recv hK hP (ci := 2) (q0 := 0) rfl rfl) hP hD hK hG hS hA [0, 1] [] rfl (by decide) rfl (by decide) (by decide) ⟨Nat.le_of_ble_eq_true rfl, Nat.le_of_ble_eq_true rfl⟩ rfl hl.1 (Nat.le_of_ble_eq_true rfl) dX5_writeText_2 rfl ht hlocks (fun u t hal hq1 hP hD hFF => ?_) (Nat.le_of_ble_eq_true rfl) (Nat.le_of_ble_eq_true rfl)
  have hP : va_P D cls [(lo, .inr (2, [.ref ra, .ref d0, .ref b0, .ref t0, .ref r0])), (ra, .inl (T 2, 6, .inr (.inr (.inr (.inr (fun j => some (rd j)))))))] t.heap := hP
  have hD : va_D A [(lo, .inr (2, [.ref ra, .ref d0, .ref b0, .ref t0, .ref r0])), (ra, .inl (T 2, 6, .inr (.inr (.inr (.inr (fun j => some (rd j)))))))] := hD
  exact ⟨rfl, ⟨(), trivial, hP.sub (ws' := [(lo, .inr (2, [.ref ra, .ref d0, .ref b0, .ref t0, .ref r0])), (ra, .inl (T 2, 6, .inr (.inr (.inr (.inr (fun j => some (rd j)))))))]) [0, 1] rfl, va_K.moved hal hK, hD.sub (ws' := [(lo, .inr (2, [.ref ra, .ref d0, .ref b0, .ref t0, .ref r0])), (ra, .inl (T 2, 6, .inr (.inr (.inr (.inr (fun j => some (rd j)))))))]) [0, 1] (by decide) rfl⟩, hFF⟩
set_option maxHeartbeats 4000000 in
set_option maxRecDepth 100000 in
/-- writeText: no such other row -/
theorem c_writeText_x2 (l : Launch) (D : va_G) (T : Nat → ClassId) (g : Nat → Nat) (sz : Nat) (hl9 : l.stackTraces = false) (lo : Nat) (ra : Nat) (d0 : Nat) (b0 : Nat) (t0 : Nat) (r0 : Nat) (rd : Nat → Nat) (i : Nat) (hi : i < 6) (j : Int32) (hj : j < 0 ∨ ¬ j < nI 6) (x0 : Int32) (x1 : Int32) : TX l yX5_writeText wsX5_writeText ({ frames := 7, cells := 1, slots := 6, locals := 111 } : Room) D T g [.ref lo, .int (nI i), .int j, .int x0, .int x1] [(lo, .inr (2, [.ref ra, .ref d0, .ref b0, .ref t0, .ref r0])), (ra, .inl (T 2, 6, .inr (.inr (.inr (.inr (fun j => some (rd j)))))))] sz "java/lang/IndexOutOfBoundsException" (fun u : Unit => True) (fun u : Unit => [(lo, .inr (2, [.ref ra, .ref d0, .ref b0, .ref t0, .ref r0])), (ra, .inl (T 2, 6, .inr (.inr (.inr (.inr (fun j => some (rd j)))))))]) 1 6 := by
  refine vx_ofW (cc := cX5_writeText) (maxL := 8) (ret := (some .int)) (by decide) rfl ?_
  intro p e s m args below meth c s₁ B hml ht hv
  obtain ⟨rfl, hsz, hP, hK, hD0, hG⟩ := hv
  have hx := B.exec
  have hb := B.bytes
  have hr := B.returns
  have hts := atoms_spec (ws := wsX5_writeText) B.pre
  have hown : s.vm.findClass RX5 = some m.cls := findClass_of_methodNamed B.named
  have hlocks := B.notSynchronized
  subst hsz
  have hD := hD0.self (sz := s.heap.size)
  generalize hAe : va_A [(lo, .inr (2, [.ref ra, .ref d0, .ref b0, .ref t0, .ref r0])), (ra, .inl (T 2, 6, .inr (.inr (.inr (.inr (fun j => some (rd j)))))))] s.heap.size = A at hD hG ⊢
  have hA : ∀ q : Nat, s.heap.size ≤ q → A q := fun q h => by rw [← hAe]; exact Or.inr h
  have hS : va_S A s.heap s.heap [] := va_S.rf
  have hP : va_P D cls [(lo, .inr (2, [.ref ra, .ref d0, .ref b0, .ref t0, .ref r0])), (ra, .inl (T 2, 6, .inr (.inr (.inr (.inr (fun j => some (rd j)))))))] s.heap := hP
  have hl := lv_entry ([.ref lo, .int (nI i), .int j, .int x0, .int x1]) (n := 8) (Nat.le_of_ble_eq_true rfl)
  rw [lg_entry_eq]
  generalize (lg_sl ([.ref lo, .int (nI i), .int j, .int x0, .int x1]) ++ List.replicate (8 - (lg_sl ([.ref lo, .int (nI i), .int j, .int x0, .int x1])).length) Slot.unset).toArray = ls at hl ⊢
  have hl : lv_has ls 8 [(0, .ref lo), (1, .int (nI i)), (2, .int j), (3, .int x0), (4, .int x1)] := hl
  refine lv_aload_n hx hb dX5_writeText_0 rfl (lv_at hl 0 rfl) ?_
  refine lv_iload_n hx hb dX5_writeText_1 rfl (lv_at hl 1 rfl) ?_
  refine ro_V (As := [.int (nI i)]) (rest := []) (wc := [(lo, .inr (2, [.ref ra, .ref d0, .ref b0, .ref t0, .ref r0])), (ra, .inl (T 2, 6, .inr (.inr (.inr (.inr (fun j => some (rd j)))))))]) (r := .ref (rd i)) ⟨hx, hb, hml, hown, hts⟩ (c_X5_rowAt l D T g lo ra d0 b0 t0 r0 rd i hi) (cwV 1 hts gX5_writeText_X5_rowAt rfl rfl rfl (by decide +kernel) ⟨Nat.le_of_ble_eq_true rfl, Nat.le_of_ble_eq_true rfl⟩) (va_recv hK hP (ci := 2) (q0 := 0) rfl rfl) hP hK hG hS [0, 1] rfl ⟨Nat.zero_le _, Nat.zero_le _⟩ rfl hl.1 (Nat.le_of_ble_eq_true rfl) dX5_writeText_2 rfl ?_
  refine lv_astore (lv' := [(5, .ref (rd i)), (0, .ref lo), (1, .int (nI i)), (2, .int j), (3, .int x0), (4, .int x1)]) hx hb dX5_writeText_5 hl (by decide) rfl (fun ls hl => ?_)
  refine lv_aload_n hx hb dX5_writeText_7 rfl (lv_at hl 1 rfl) ?_
  refine lv_iload_n hx hb dX5_writeText_8 rfl (lv_at hl 3 rfl) ?_
  refine tx_V (As := [.int j]) (rest := []) (wc := [(lo, .inr (2, [.ref ra, .ref d0, .ref b0, .ref t0, .ref r0])), (ra, .inl (T 2, 6, .inr (.inr (.inr (.inr (fun j => some (rd j)))))))]) (wr := []) ⟨hx, hb, hml, hown, hts⟩ (c_X5_rowAt_x l D T g s.heap.size hl9 lo ra d0 b0 t0 r0 rd j hj) (cwV 1 hts gX5_writeText_X5_rowAt rfl rfl rfl (by decide +kernel) ⟨Nat.le_of_ble_eq_true rfl, Nat.le_of_ble_eq_true rfl⟩) (va_recv hK hP (ci := 2) (q0 := 0) rfl rfl) hP hD hK hG hS hA [0, 1] [] rfl (by decide) rfl (by decide) (by decide) ⟨Nat.le_of_ble_eq_true rfl, Nat.le_of_ble_eq_true rfl⟩ rfl hl.1 (Nat.le_of_ble_eq_true rfl) dX5_writeText_9 rfl ht hlocks (fun u t hal hq1 hP hD hFF => ?_) (Nat.le_of_ble_eq_true rfl) (Nat.le_of_ble_eq_true rfl)
  have hP : va_P D cls [(lo, .inr (2, [.ref ra, .ref d0, .ref b0, .ref t0, .ref r0])), (ra, .inl (T 2, 6, .inr (.inr (.inr (.inr (fun j => some (rd j)))))))] t.heap := hP
  have hD : va_D A [(lo, .inr (2, [.ref ra, .ref d0, .ref b0, .ref t0, .ref r0])), (ra, .inl (T 2, 6, .inr (.inr (.inr (.inr (fun j => some (rd j)))))))] := hD
  exact ⟨rfl, ⟨(), trivial, hP.sub (ws' := [(lo, .inr (2, [.ref ra, .ref d0, .ref b0, .ref t0, .ref r0])), (ra, .inl (T 2, 6, .inr (.inr (.inr (.inr (fun j => some (rd j)))))))]) [0, 1] rfl, va_K.moved hal hK, hD.sub (ws' := [(lo, .inr (2, [.ref ra, .ref d0, .ref b0, .ref t0, .ref r0])), (ra, .inl (T 2, 6, .inr (.inr (.inr (.inr (fun j => some (rd j)))))))]) [0, 1] (by decide) rfl⟩, hFF⟩
set_option maxHeartbeats 4000000 in
set_option maxRecDepth 100000 in
theorem c_writeText_x3 (l : Launch) (D : va_G) (T : Nat → ClassId) (g : Nat → Nat) (sz : Nat) (hl9 : l.stackTraces = false) (lo : Nat) (ra : Nat) (d0 : Nat) (b0 : Nat) (t0 : Nat) (r0 : Nat) (rd : Nat → Nat) (i : Nat) (j : Nat) (hi : i < 6) (hj : j < 6) (k : Int32) (hk : k < 0 ∨ ¬ k < nI 3) (x0 : Int32) : TX l yX5_writeText wsX5_writeText ({ frames := 7, cells := 1, slots := 6, locals := 110 } : Room) D T g [.ref lo, .int (nI i), .int (nI j), .int k, .int x0] [(lo, .inr (2, [.ref ra, .ref d0, .ref b0, .ref t0, .ref r0])), (ra, .inl (T 2, 6, .inr (.inr (.inr (.inr (fun j => some (rd j)))))))] sz "java/lang/IllegalArgumentException" (fun u : Unit => True) (fun u : Unit => [(lo, .inr (2, [.ref ra, .ref d0, .ref b0, .ref t0, .ref r0])), (ra, .inl (T 2, 6, .inr (.inr (.inr (.inr (fun j => some (rd j)))))))]) 1 6 := by
  refine vx_ofW (cc := cX5_writeText) (maxL := 8) (ret := (some .int)) (by decide) rfl ?_
  intro p e s m args below meth c s₁ B hml ht hv
  obtain ⟨rfl, hsz, hP, hK, hD0, hG⟩ := hv
  have hx := B.exec
  have hb := B.bytes
  have hr := B.returns
  have hts := atoms_spec (ws := wsX5_writeText) B.pre
  have hown : s.vm.findClass RX5 = some m.cls := findClass_of_methodNamed B.named
  have hlocks := B.notSynchronized
  subst hsz
  have hD := hD0.self (sz := s.heap.size)
  generalize hAe : va_A [(lo, .inr (2, [.ref ra, .ref d0, .ref b0, .ref t0, .ref r0])), (ra, .inl (T 2, 6, .inr (.inr (.inr (.inr (fun j => some (rd j)))))))] s.heap.size = A at hD hG ⊢
  have hA : ∀ q : Nat, s.heap.size ≤ q → A q := fun q h => by rw [← hAe]; exact Or.inr h
  have hS : va_S A s.heap s.heap [] := va_S.rf
  have hP : va_P D cls [(lo, .inr (2, [.ref ra, .ref d0, .ref b0, .ref t0, .ref r0])), (ra, .inl (T 2, 6, .inr (.inr (.inr (.inr (fun j => some (rd j)))))))] s.heap := hP
  have hl := lv_entry ([.ref lo, .int (nI i), .int (nI j), .int k, .int x0]) (n := 8) (Nat.le_of_ble_eq_true rfl)
  rw [lg_entry_eq]
  generalize (lg_sl ([.ref lo, .int (nI i), .int (nI j), .int k, .int x0]) ++ List.replicate (8 - (lg_sl ([.ref lo, .int (nI i), .int (nI j), .int k, .int x0])).length) Slot.unset).toArray = ls at hl ⊢
  have hl : lv_has ls 8 [(0, .ref lo), (1, .int (nI i)), (2, .int (nI j)), (3, .int k), (4, .int x0)] := hl
  refine lv_aload_n hx hb dX5_writeText_0 rfl (lv_at hl 0 rfl) ?_
  refine lv_iload_n hx hb dX5_writeText_1 rfl (lv_at hl 1 rfl) ?_
  refine ro_V (As := [.int (nI i)]) (rest := []) (wc := [(lo, .inr (2, [.ref ra, .ref d0, .ref b0, .ref t0, .ref r0])), (ra, .inl (T 2, 6, .inr (.inr (.inr (.inr (fun j => some (rd j)))))))]) (r := .ref (rd i)) ⟨hx, hb, hml, hown, hts⟩ (c_X5_rowAt l D T g lo ra d0 b0 t0 r0 rd i hi) (cwV 1 hts gX5_writeText_X5_rowAt rfl rfl rfl (by decide +kernel) ⟨Nat.le_of_ble_eq_true rfl, Nat.le_of_ble_eq_true rfl⟩) (va_recv hK hP (ci := 2) (q0 := 0) rfl rfl) hP hK hG hS [0, 1] rfl ⟨Nat.zero_le _, Nat.zero_le _⟩ rfl hl.1 (Nat.le_of_ble_eq_true rfl) dX5_writeText_2 rfl ?_
  refine lv_astore (lv' := [(5, .ref (rd i)), (0, .ref lo), (1, .int (nI i)), (2, .int (nI j)), (3, .int k), (4, .int x0)]) hx hb dX5_writeText_5 hl (by decide) rfl (fun ls hl => ?_)
  refine lv_aload_n hx hb dX5_writeText_7 rfl (lv_at hl 1 rfl) ?_
  refine lv_iload_n hx hb dX5_writeText_8 rfl (lv_at hl 3 rfl) ?_
  refine ro_V (As := [.int (nI j)]) (rest := []) (wc := [(lo, .inr (2, [.ref ra, .ref d0, .ref b0, .ref t0, .ref r0])), (ra, .inl (T 2, 6, .inr (.inr (.inr (.inr (fun j => some (rd j)))))))]) (r := .ref (rd j)) ⟨hx, hb, hml, hown, hts⟩ (c_X5_rowAt l D T g lo ra d0 b0 t0 r0 rd j hj) (cwV 1 hts gX5_writeText_X5_rowAt rfl rfl rfl (by decide +kernel) ⟨Nat.le_of_ble_eq_true rfl, Nat.le_of_ble_eq_true rfl⟩) (va_recv hK hP (ci := 2) (q0 := 0) rfl rfl) hP hK hG hS [0, 1] rfl ⟨Nat.zero_le _, Nat.zero_le _⟩ rfl hl.1 (Nat.le_of_ble_eq_true rfl) dX5_writeText_9 rfl ?_
  refine lv_astore (lv' := [(6, .ref (rd j)), (5, .ref (rd i)), (0, .ref lo), (1, .int (nI i)), (2, .int (nI j)), (3, .int k), (4, .int x0)]) hx hb dX5_writeText_12 hl (by decide) rfl (fun ls hl => ?_)
  refine lv_iload_n hx hb dX5_writeText_14 rfl (lv_at hl 5 rfl) ?_
  refine tx_S (As := [.int k]) (rest := []) (wc := []) (wr := [(lo, .inr (2, [.ref ra, .ref d0, .ref b0, .ref t0, .ref r0])), (ra, .inl (T 2, 6, .inr (.inr (.inr (.inr (fun j => some (rd j)))))))]) ⟨hx, hb, hml, hown, hts⟩ (c_X5_kindAt_x l D T g s.heap.size hl9 k hk) (va_cwS 1 hts gX5_writeText_X5_kindAt rfl rfl rfl (by decide +kernel) ⟨Nat.le_of_ble_eq_true rfl, Nat.le_of_ble_eq_true rfl⟩) hP hD hK hG hS hA [] [0, 1] rfl (by decide) rfl (by decide) (by decide) ⟨Nat.le_of_ble_eq_true rfl, Nat.le_of_ble_eq_true rfl⟩ rfl hl.1 (Nat.le_of_ble_eq_true rfl) dX5_writeText_15 rfl ht hlocks (fun u t hal hq1 hP hD hFF => ?_) (Nat.le_of_ble_eq_true rfl) (Nat.le_of_ble_eq_true rfl)
  have hP : va_P D cls [(lo, .inr (2, [.ref ra, .ref d0, .ref b0, .ref t0, .ref r0])), (ra, .inl (T 2, 6, .inr (.inr (.inr (.inr (fun j => some (rd j)))))))] t.heap := hP
  have hD : va_D A [(lo, .inr (2, [.ref ra, .ref d0, .ref b0, .ref t0, .ref r0])), (ra, .inl (T 2, 6, .inr (.inr (.inr (.inr (fun j => some (rd j)))))))] := hD
  exact ⟨rfl, ⟨(), trivial, hP.sub (ws' := [(lo, .inr (2, [.ref ra, .ref d0, .ref b0, .ref t0, .ref r0])), (ra, .inl (T 2, 6, .inr (.inr (.inr (.inr (fun j => some (rd j)))))))]) [0, 1] rfl, va_K.moved hal hK, hD.sub (ws' := [(lo, .inr (2, [.ref ra, .ref d0, .ref b0, .ref t0, .ref r0])), (ra, .inl (T 2, 6, .inr (.inr (.inr (.inr (fun j => some (rd j)))))))]) [0, 1] (by decide) rfl⟩, hFF⟩
set_option maxHeartbeats 4000000 in
set_option maxRecDepth 100000 in
theorem c_writeText_x4 (l : Launch) (D : va_G) (T : Nat → ClassId) (g : Nat → Nat) (sz : Nat) (hl9 : l.stackTraces = false) (lo : Nat) (ra : Nat) (d0 : Nat) (b0 : Nat) (t0 : Nat) (r0 : Nat) (rd : Nat → Nat) (i : Nat) (q0 : Nat) (f : Nat → Int32) (n : Nat) (j : Nat) (k : Nat) (hk : k < 3) (fl : Nat) (hi : i < 6) (hj : j < 6) (hn : n ≤ 320 ∧ fl < 2) (hm : 320 < lnN k n fl) : TX l yX5_writeText wsX5_writeText ({ frames := 7, cells := 1, slots := 6, locals := 110 } : Room) D T g [.ref lo, .int (nI i), .int (nI j), .int (nI k), .int (nI fl)] [(lo, .inr (2, [.ref ra, .ref d0, .ref b0, .ref t0, .ref r0])), (ra, .inl (T 2, 6, .inr (.inr (.inr (.inr (fun j => some (rd j))))))), (rd i, .inr (0, [.ref q0, .int (nI n)])), (q0, .inl (T 0, 440, .inl f))] sz "java/lang/IllegalStateException" (fun u : Unit => True) (fun u : Unit => [(lo, .inr (2, [.ref ra, .ref d0, .ref b0, .ref t0, .ref r0])), (ra, .inl (T 2, 6, .inr (.inr (.inr (.inr (fun j => some (rd j))))))), (rd i, .inr (0, [.ref q0, .int (nI n)])), (q0, .inl (T 0, 440, .inl f))]) 1 6 := by
  refine vx_ofW (cc := cX5_writeText) (maxL := 8) (ret := (some .int)) (by decide) rfl ?_
  intro p e s m args below meth c s₁ B hml ht hv
  obtain ⟨rfl, hsz, hP, hK, hD0, hG⟩ := hv
  have hx := B.exec
  have hb := B.bytes
  have hr := B.returns
  have hts := atoms_spec (ws := wsX5_writeText) B.pre
  have hown : s.vm.findClass RX5 = some m.cls := findClass_of_methodNamed B.named
  have hlocks := B.notSynchronized
  have hi_X2 : ∀ w ∈ wsX20, w ∈ wsX5_writeText := by decide +kernel
  subst hsz
  have hD := hD0.self (sz := s.heap.size)
  generalize hAe : va_A [(lo, .inr (2, [.ref ra, .ref d0, .ref b0, .ref t0, .ref r0])), (ra, .inl (T 2, 6, .inr (.inr (.inr (.inr (fun j => some (rd j))))))), (rd i, .inr (0, [.ref q0, .int (nI n)])), (q0, .inl (T 0, 440, .inl f))] s.heap.size = A at hD hG ⊢
  have hA : ∀ q : Nat, s.heap.size ≤ q → A q := fun q h => by rw [← hAe]; exact Or.inr h
  have hS : va_S A s.heap s.heap [] := va_S.rf
  have hP : va_P D cls [(lo, .inr (2, [.ref ra, .ref d0, .ref b0, .ref t0, .ref r0])), (ra, .inl (T 2, 6, .inr (.inr (.inr (.inr (fun j => some (rd j))))))), (rd i, .inr (0, [.ref q0, .int (nI n)])), (q0, .inl (T 0, 440, .inl f))] s.heap := hP
  have hl := lv_entry ([.ref lo, .int (nI i), .int (nI j), .int (nI k), .int (nI fl)]) (n := 8) (Nat.le_of_ble_eq_true rfl)
  rw [lg_entry_eq]
  generalize (lg_sl ([.ref lo, .int (nI i), .int (nI j), .int (nI k), .int (nI fl)]) ++ List.replicate (8 - (lg_sl ([.ref lo, .int (nI i), .int (nI j), .int (nI k), .int (nI fl)])).length) Slot.unset).toArray = ls at hl ⊢
  have hl : lv_has ls 8 [(0, .ref lo), (1, .int (nI i)), (2, .int (nI j)), (3, .int (nI k)), (4, .int (nI fl))] := hl
  have hle := lnN_le (k := k) (fl := fl) hn.1
  refine lv_aload_n hx hb dX5_writeText_0 rfl (lv_at hl 0 rfl) ?_
  refine lv_iload_n hx hb dX5_writeText_1 rfl (lv_at hl 1 rfl) ?_
  refine ro_V (As := [.int (nI i)]) (rest := []) (wc := [(lo, .inr (2, [.ref ra, .ref d0, .ref b0, .ref t0, .ref r0])), (ra, .inl (T 2, 6, .inr (.inr (.inr (.inr (fun j => some (rd j)))))))]) (r := .ref (rd i)) ⟨hx, hb, hml, hown, hts⟩ (c_X5_rowAt l D T g lo ra d0 b0 t0 r0 rd i hi) (cwV 1 hts gX5_writeText_X5_rowAt rfl rfl rfl (by decide +kernel) ⟨Nat.le_of_ble_eq_true rfl, Nat.le_of_ble_eq_true rfl⟩) (va_recv hK hP (ci := 2) (q0 := 0) rfl rfl) hP hK hG hS [0, 1] rfl ⟨Nat.zero_le _, Nat.zero_le _⟩ rfl hl.1 (Nat.le_of_ble_eq_true rfl) dX5_writeText_2 rfl ?_
  refine lv_astore (lv' := [(5, .ref (rd i)), (0, .ref lo), (1, .int (nI i)), (2, .int (nI j)), (3, .int (nI k)), (4, .int (nI fl))]) hx hb dX5_writeText_5 hl (by decide) rfl (fun ls hl => ?_)
  refine lv_aload_n hx hb dX5_writeText_7 rfl (lv_at hl 1 rfl) ?_
  refine lv_iload_n hx hb dX5_writeText_8 rfl (lv_at hl 3 rfl) ?_
  refine ro_V (As := [.int (nI j)]) (rest := []) (wc := [(lo, .inr (2, [.ref ra, .ref d0, .ref b0, .ref t0, .ref r0])), (ra, .inl (T 2, 6, .inr (.inr (.inr (.inr (fun j => some (rd j)))))))]) (r := .ref (rd j)) ⟨hx, hb, hml, hown, hts⟩ (c_X5_rowAt l D T g lo ra d0 b0 t0 r0 rd j hj) (cwV 1 hts gX5_writeText_X5_rowAt rfl rfl rfl (by decide +kernel) ⟨Nat.le_of_ble_eq_true rfl, Nat.le_of_ble_eq_true rfl⟩) (va_recv hK hP (ci := 2) (q0 := 0) rfl rfl) hP hK hG hS [0, 1] rfl ⟨Nat.zero_le _, Nat.zero_le _⟩ rfl hl.1 (Nat.le_of_ble_eq_true rfl) dX5_writeText_9 rfl ?_
  refine lv_astore (lv' := [(6, .ref (rd j)), (5, .ref (rd i)), (0, .ref lo), (1, .int (nI i)), (2, .int (nI j)), (3, .int (nI k)), (4, .int (nI fl))]) hx hb dX5_writeText_12 hl (by decide) rfl (fun ls hl => ?_)
  refine lv_iload_n hx hb dX5_writeText_14 rfl (lv_at hl 5 rfl) ?_
  refine ro_S (As := [.int (nI k)]) (rest := []) (wc := []) (r := .ref (g k)) ⟨hx, hb, hml, hown, hts⟩ (c_X5_kindAt l D T g k hk) (va_cwS 1 hts gX5_writeText_X5_kindAt rfl rfl rfl (by decide +kernel) ⟨Nat.le_of_ble_eq_true rfl, Nat.le_of_ble_eq_true rfl⟩) hP hK hG hS [] rfl ⟨Nat.zero_le _, Nat.zero_le _⟩ rfl hl.1 (Nat.le_of_ble_eq_true rfl) dX5_writeText_15 rfl ?_
  refine lv_astore (lv' := [(7, .ref (g k)), (6, .ref (rd j)), (5, .ref (rd i)), (0, .ref lo), (1, .int (nI i)), (2, .int (nI j)), (3, .int (nI k)), (4, .int (nI fl))]) hx hb dX5_writeText_18 hl (by decide) rfl (fun ls hl => ?_)
  refine lv_aload hx hb dX5_writeText_20 (lv_at hl 2 rfl) ?_
  refine va_getN (D := D) (ci := 0) (v := .int (nI n)) (C := RX2) (T := TX2) (N := 2) hx hb hts hi_X2 hown hK hP 2 rfl rfl 1 (by decide) (nx0 hG) (fun _ h9 => h9) rfl dX5_writeText_22 ?_
  refine lv_aload hx hb dX5_writeText_25 (lv_at hl 0 rfl) ?_
  refine lv_iload hx hb dX5_writeText_27 (lv_at hl 7 rfl) ?_
  refine ro_S (As := [.int (nI n), .ref (g k), .int (nI fl)]) (rest := []) (wc := []) (r := .int (nI (lnN k n fl))) ⟨hx, hb, hml, hown, hts⟩ (c_X4_lengthOf l D T g n k fl hk hn) (va_cwS 3 hts gX5_writeText_X4_lengthOf rfl rfl rfl (by decide +kernel) ⟨Nat.le_of_ble_eq_true rfl, Nat.le_of_ble_eq_true rfl⟩) hP hK hG hS [] rfl ⟨Nat.zero_le _, Nat.zero_le _⟩ rfl hl.1 (Nat.le_of_ble_eq_true rfl) dX5_writeText_29 rfl ?_
  refine tx_S (As := [.int (nI (lnN k n fl))]) (rest := []) (wc := []) (wr := [(lo, .inr (2, [.ref ra, .ref d0, .ref b0, .ref t0, .ref r0])), (ra, .inl (T 2, 6, .inr (.inr (.inr (.inr (fun j => some (rd j))))))), (rd i, .inr (0, [.ref q0, .int (nI n)])), (q0, .inl (T 0, 440, .inl f))]) ⟨hx, hb, hml, hown, hts⟩ (c_X5_checkRoom_x l D T g s.heap.size hl9 (lnN k n fl) (by omega)) (va_cwS 1 hts gX5_writeText_X5_checkRoom rfl rfl rfl (by decide +kernel) ⟨Nat.le_of_ble_eq_true rfl, Nat.le_of_ble_eq_true rfl⟩) hP hD hK hG hS hA [] [0, 1, 2, 3] rfl (by decide) rfl (by decide) (by decide) ⟨Nat.le_of_ble_eq_true rfl, Nat.le_of_ble_eq_true rfl⟩ rfl hl.1 (Nat.le_of_ble_eq_true rfl) dX5_writeText_32 rfl ht hlocks (fun u t hal hq1 hP hD hFF => ?_) (Nat.le_of_ble_eq_true rfl) (Nat.le_of_ble_eq_true rfl)
  have hP : va_P D cls [(lo, .inr (2, [.ref ra, .ref d0, .ref b0, .ref t0, .ref r0])), (ra, .inl (T 2, 6, .inr (.inr (.inr (.inr (fun j => some (rd j))))))), (rd i, .inr (0, [.ref q0, .int (nI n)])), (q0, .inl (T 0, 440, .inl f))] t.heap := hP
  have hD : va_D A [(lo, .inr (2, [.ref ra, .ref d0, .ref b0, .ref t0, .ref r0])), (ra, .inl (T 2, 6, .inr (.inr (.inr (.inr (fun j => some (rd j))))))), (rd i, .inr (0, [.ref q0, .int (nI n)])), (q0, .inl (T 0, 440, .inl f))] := hD
  exact ⟨rfl, ⟨(), trivial, hP.sub (ws' := [(lo, .inr (2, [.ref ra, .ref d0, .ref b0, .ref t0, .ref r0])), (ra, .inl (T 2, 6, .inr (.inr (.inr (.inr (fun j => some (rd j))))))), (rd i, .inr (0, [.ref q0, .int (nI n)])), (q0, .inl (T 0, 440, .inl f))]) [0, 1, 2, 3] rfl, va_K.moved hal hK, hD.sub (ws' := [(lo, .inr (2, [.ref ra, .ref d0, .ref b0, .ref t0, .ref r0])), (ra, .inl (T 2, 6, .inr (.inr (.inr (.inr (fun j => some (rd j))))))), (rd i, .inr (0, [.ref q0, .int (nI n)])), (q0, .inl (T 0, 440, .inl f))]) [0, 1, 2, 3] (by decide) rfl⟩, hFF⟩
set_option maxHeartbeats 4000000 in
set_option maxRecDepth 100000 in
theorem c_write (l : Launch) (D : va_G) (T : Nat → ClassId) (g : Nat → Nat) (sz : Nat) (lo : Nat) (ra : Nat) (d0 : Nat) (b0 : Nat) (t0 : Nat) (r0 : Nat) (rd : Nat → Nat) (i : Nat) (q0 : Nat) (f : Nat → Int32) (n : Nat) (j : Nat) (q1 : Nat) (f1 : Nat → Int32) (n1 : Nat) (dq : Nat) (df : Nat → Int32) (dn : Nat) (b : Nat → Nat) (hb9 : RB f n b) (k : Nat) (hk : k < 3) (fl : Nat) (hn : n ≤ 320 ∧ fl < 2) (hm : lnN k n fl ≤ 320) (hi : i < 6) (hj : j < 6) : MU l yX5_write wsX5_write ({ frames := 4, cells := 0, slots := 0, locals := 95 } : Room) D T g [.ref lo, .int (nI i), .int (nI j), .int (nI k), .int (nI fl)] [(lo, .inr (2, [.ref ra, .ref d0, .ref b0, .ref t0, .ref r0])), (ra, .inl (T 2, 6, .inr (.inr (.inr (.inr (fun j => some (rd j))))))), (rd i, .inr (0, [.ref q0, .int (nI n)])), (q0, .inl (T 0, 440, .inl f)), (rd j, .inr (0, [.ref q1, .int (nI n1)])), (q1, .inl (T 0, 440, .inl f1)), (d0, .inr (0, [.ref dq, .int (nI dn)])), (dq, .inl (T 0, 440, .inl df))] sz (fun u : (Nat → Int32) × (Nat → Int32) => some (.int (nI (lnN k n fl)))) (fun u : (Nat → Int32) × (Nat → Int32) => RB u.1 (lnN k n fl) (wrA k n b)) (fun u : (Nat → Int32) × (Nat → Int32) => [(lo, .inr (2, [.ref ra, .ref d0, .ref b0, .ref t0, .ref r0])), (ra, .inl (T 2, 6, .inr (.inr (.inr (.inr (fun j => some (rd j))))))), (rd i, .inr (0, [.ref q0, .int (nI n)])), (q0, .inl (T 0, 440, .inl f)), (rd j, .inr (0, [.ref q1, .int (nI (lnN k n fl))])), (q1, .inl (T 0, 440, .inl u.1)), (d0, .inr (0, [.ref dq, .int (nI (lnN k n fl))])), (dq, .inl (T 0, 440, .inl u.2))]) 0 0 := by
  refine Met.ofW (cc := cX5_write) (maxL := 8) (ret := (some .int)) (by decide) rfl ?_
  intro p e s m args below meth c s₁ B hml hv
  obtain ⟨rfl, hsz, hP, hK, hD0, hG⟩ := hv
  have hx := B.exec
  have hb := B.bytes
  have hr := B.returns
  have hts := atoms_spec (ws := wsX5_write) B.pre
  have hown : s.vm.findClass RX5 = some m.cls := findClass_of_methodNamed B.named
  have hlocks := B.notSynchronized
  have hi_X2 : ∀ w ∈ wsX20, w ∈ wsX5_write := by decide +kernel
  have hi_X5 : ∀ w ∈ wsX50, w ∈ wsX5_write := by decide +kernel
  subst hsz
  have hD := hD0.self (sz := s.heap.size)
  generalize hAe : va_A [(lo, .inr (2, [.ref ra, .ref d0, .ref b0, .ref t0, .ref r0])), (ra, .inl (T 2, 6, .inr (.inr (.inr (.inr (fun j => some (rd j))))))), (rd i, .inr (0, [.ref q0, .int (nI n)])), (q0, .inl (T 0, 440, .inl f)), (rd j, .inr (0, [.ref q1, .int (nI n1)])), (q1, .inl (T 0, 440, .inl f1)), (d0, .inr (0, [.ref dq, .int (nI dn)])), (dq, .inl (T 0, 440, .inl df))] s.heap.size = A at hD hG ⊢
  have hA : ∀ q : Nat, s.heap.size ≤ q → A q := fun q h => by rw [← hAe]; exact Or.inr h
  have hS : va_S A s.heap s.heap [] := va_S.rf
  have hP : va_P D cls [(lo, .inr (2, [.ref ra, .ref d0, .ref b0, .ref t0, .ref r0])), (ra, .inl (T 2, 6, .inr (.inr (.inr (.inr (fun j => some (rd j))))))), (rd i, .inr (0, [.ref q0, .int (nI n)])), (q0, .inl (T 0, 440, .inl f)), (rd j, .inr (0, [.ref q1, .int (nI n1)])), (q1, .inl (T 0, 440, .inl f1)), (d0, .inr (0, [.ref dq, .int (nI dn)])), (dq, .inl (T 0, 440, .inl df))] s.heap := hP
  have hl := lv_entry ([.ref lo, .int (nI i), .int (nI j), .int (nI k), .int (nI fl)]) (n := 8) (Nat.le_of_ble_eq_true rfl)
  rw [lg_entry_eq]
  generalize (lg_sl ([.ref lo, .int (nI i), .int (nI j), .int (nI k), .int (nI fl)]) ++ List.replicate (8 - (lg_sl ([.ref lo, .int (nI i), .int (nI j), .int (nI k), .int (nI fl)])).length) Slot.unset).toArray = ls at hl ⊢
  have hl : lv_has ls 8 [(0, .ref lo), (1, .int (nI i)), (2, .int (nI j)), (3, .int (nI k)), (4, .int (nI fl))] := hl
  refine lv_aload_n hx hb dX5_write_0 rfl (lv_at hl 0 rfl) ?_
  refine lv_iload_n hx hb dX5_write_1 rfl (lv_at hl 1 rfl) ?_
  refine ro_V (As := [.int (nI i)]) (rest := []) (wc := [(lo, .inr (2, [.ref ra, .ref d0, .ref b0, .ref t0, .ref r0])), (ra, .inl (T 2, 6, .inr (.inr (.inr (.inr (fun j => some (rd j)))))))]) (r := .ref (rd i)) ⟨hx, hb, hml, hown, hts⟩ (c_X5_rowAt l D T g lo ra d0 b0 t0 r0 rd i hi) (cwV 1 hts gX5_write_X5_rowAt rfl rfl rfl (by decide +kernel) ⟨Nat.le_of_ble_eq_true rfl, Nat.le_of_ble_eq_true rfl⟩) (va_recv hK hP (ci := 2) (q0 := 0) rfl rfl) hP hK hG hS [0, 1] rfl ⟨Nat.zero_le _, Nat.zero_le _⟩ rfl hl.1 (Nat.le_of_ble_eq_true rfl) dX5_write_2 rfl ?_
  refine lv_astore (lv' := [(5, .ref (rd i)), (0, .ref lo), (1, .int (nI i)), (2, .int (nI j)), (3, .int (nI k)), (4, .int (nI fl))]) hx hb dX5_write_5 hl (by decide) rfl (fun ls hl => ?_)
  refine lv_aload_n hx hb dX5_write_7 rfl (lv_at hl 1 rfl) ?_
  refine lv_iload_n hx hb dX5_write_8 rfl (lv_at hl 3 rfl) ?_
  refine ro_V (As := [.int (nI j)]) (rest := []) (wc := [(lo, .inr (2, [.ref ra, .ref d0, .ref b0, .ref t0, .ref r0])), (ra, .inl (T 2, 6, .inr (.inr (.inr (.inr (fun j => some (rd j)))))))]) (r := .ref (rd j)) ⟨hx, hb, hml, hown, hts⟩ (c_X5_rowAt l D T g lo ra d0 b0 t0 r0 rd j hj) (cwV 1 hts gX5_write_X5_rowAt rfl rfl rfl (by decide +kernel) ⟨Nat.le_of_ble_eq_true rfl, Nat.le_of_ble_eq_true rfl⟩) (va_recv hK hP (ci := 2) (q0 := 0) rfl rfl) hP hK hG hS [0, 1] rfl ⟨Nat.zero_le _, Nat.zero_le _⟩ rfl hl.1 (Nat.le_of_ble_eq_true rfl) dX5_write_9 rfl ?_
  refine lv_astore (lv' := [(6, .ref (rd j)), (5, .ref (rd i)), (0, .ref lo), (1, .int (nI i)), (2, .int (nI j)), (3, .int (nI k)), (4, .int (nI fl))]) hx hb dX5_write_12 hl (by decide) rfl (fun ls hl => ?_)
  refine lv_iload_n hx hb dX5_write_14 rfl (lv_at hl 5 rfl) ?_
  refine ro_S (As := [.int (nI k)]) (rest := []) (wc := []) (r := .ref (g k)) ⟨hx, hb, hml, hown, hts⟩ (c_X5_kindAt l D T g k hk) (va_cwS 1 hts gX5_write_X5_kindAt rfl rfl rfl (by decide +kernel) ⟨Nat.le_of_ble_eq_true rfl, Nat.le_of_ble_eq_true rfl⟩) hP hK hG hS [] rfl ⟨Nat.zero_le _, Nat.zero_le _⟩ rfl hl.1 (Nat.le_of_ble_eq_true rfl) dX5_write_15 rfl ?_
  refine lv_astore (lv' := [(7, .ref (g k)), (6, .ref (rd j)), (5, .ref (rd i)), (0, .ref lo), (1, .int (nI i)), (2, .int (nI j)), (3, .int (nI k)), (4, .int (nI fl))]) hx hb dX5_write_18 hl (by decide) rfl (fun ls hl => ?_)
  refine lv_aload hx hb dX5_write_20 (lv_at hl 2 rfl) ?_
  refine va_getN (D := D) (ci := 0) (v := .int (nI n)) (C := RX2) (T := TX2) (N := 2) hx hb hts hi_X2 hown hK hP 2 rfl rfl 1 (by decide) (nx0 hG) (fun _ h9 => h9) rfl dX5_write_22 ?_
  refine lv_aload hx hb dX5_write_25 (lv_at hl 0 rfl) ?_
  refine lv_iload hx hb dX5_write_27 (lv_at hl 7 rfl) ?_
  refine ro_S (As := [.int (nI n), .ref (g k), .int (nI fl)]) (rest := []) (wc := []) (r := .int (nI (lnN k n fl))) ⟨hx, hb, hml, hown, hts⟩ (c_X4_lengthOf l D T g n k fl hk hn) (va_cwS 3 hts gX5_write_X4_lengthOf rfl rfl rfl (by decide +kernel) ⟨Nat.le_of_ble_eq_true rfl, Nat.le_of_ble_eq_true rfl⟩) hP hK hG hS [] rfl ⟨Nat.zero_le _, Nat.zero_le _⟩ rfl hl.1 (Nat.le_of_ble_eq_true rfl) dX5_write_29 rfl ?_
  refine rv_S (As := [.int (nI (lnN k n fl))]) (rest := []) (wc := []) ⟨hx, hb, hml, hown, hts⟩ (c_X5_checkRoom l D T g (lnN k n fl) (by omega)) (va_cwS 1 hts gX5_write_X5_checkRoom rfl rfl rfl (by decide +kernel) ⟨Nat.le_of_ble_eq_true rfl, Nat.le_of_ble_eq_true rfl⟩) hP hK hG hS [] rfl ⟨Nat.zero_le _, Nat.zero_le _⟩ rfl hl.1 (Nat.le_of_ble_eq_true rfl) dX5_write_32 rfl ?_
  refine lv_aload hx hb dX5_write_35 (lv_at hl 2 rfl) ?_
  refine lv_aload hx hb dX5_write_37 (lv_at hl 0 rfl) ?_
  refine lv_iload hx hb dX5_write_39 (lv_at hl 7 rfl) ?_
  refine lv_aload_n hx hb dX5_write_41 rfl (lv_at hl 3 rfl) ?_
  refine va_get (D := D) (ci := 2) (v := .ref d0) (C := RX5) (T := TX5) (N := 5) hx hb hts hi_X5 hown hK hP 0 rfl rfl 1 (by decide) (hts _ (List.mem_of_getElem? (i := 1) rfl)) (fun _ h9 => h9) rfl dX5_write_42 ?_
  refine mu_S (As := [.ref (rd i), .ref (g k), .int (nI fl), .ref d0]) (rest := []) (wc := [(rd i, .inr (0, [.ref q0, .int (nI n)])), (q0, .inl (T 0, 440, .inl f)), (d0, .inr (0, [.ref dq, .int (nI dn)])), (dq, .inl (T 0, 440, .inl df))]) (wr := [(lo, .inr (2, [.ref ra, .ref d0, .ref b0, .ref t0, .ref r0])), (ra, .inl (T 2, 6, .inr (.inr (.inr (.inr (fun j => some (rd j))))))), (rd j, .inr (0, [.ref q1, .int (nI n1)])), (q1, .inl (T 0, 440, .inl f1))]) ⟨hx, hb, hml, hown, hts⟩ (c_X4_writeBytes l D T g s.heap.size (rd i) q0 f n k fl d0 dq df dn b (hb9) hk hn) (va_cwS 4 hts gX5_write_X4_writeBytes rfl rfl rfl (by decide +kernel) ⟨Nat.le_of_ble_eq_true rfl, Nat.le_of_ble_eq_true rfl⟩) hP hD hK hG hS hA [2, 3, 6, 7] [0, 1, 4, 5] rfl (by decide) rfl (by decide) (by decide) ⟨Nat.le_of_ble_eq_true rfl, Nat.le_of_ble_eq_true rfl⟩ rfl hl.1 (Nat.le_of_ble_eq_true rfl) dX5_write_45 rfl (fun u H locs hq2 hP hD hS => ?_)
  obtain ⟨F_1, hu9⟩ : ∃ z, z = u := ⟨_, rfl⟩
  subst hu9
  have hP : va_P D cls [(lo, .inr (2, [.ref ra, .ref d0, .ref b0, .ref t0, .ref r0])), (ra, .inl (T 2, 6, .inr (.inr (.inr (.inr (fun j => some (rd j))))))), (rd j, .inr (0, [.ref q1, .int (nI n1)])), (q1, .inl (T 0, 440, .inl f1)), ((rd i), .inr (0, [.ref q0, .int (nI n)])), (q0, .inl (T 0, 440, .inl f)), (d0, .inr (0, [.ref dq, .int (nI (lnN k n fl))])), (dq, .inl (T 0, 440, .inl F_1))] H := hP
  have hD : va_D A [(lo, .inr (2, [.ref ra, .ref d0, .ref b0, .ref t0, .ref r0])), (ra, .inl (T 2, 6, .inr (.inr (.inr (.inr (fun j => some (rd j))))))), (rd j, .inr (0, [.ref q1, .int (nI n1)])), (q1, .inl (T 0, 440, .inl f1)), ((rd i), .inr (0, [.ref q0, .int (nI n)])), (q0, .inl (T 0, 440, .inl f)), (d0, .inr (0, [.ref dq, .int (nI (lnN k n fl))])), (dq, .inl (T 0, 440, .inl F_1))] := hD
  have hp1 : RB F_1 (lnN k n fl) (wrA k n b) := hq2
  refine W.eq (g2 := F0 m 48 ls []) rfl ?_
  refine lv_aload hx hb dX5_write_48 (lv_at hl 1 rfl) ?_
  refine lv_aload_n hx hb dX5_write_50 rfl (lv_at hl 3 rfl) ?_
  refine va_get (D := D) (ci := 2) (v := .ref d0) (C := RX5) (T := TX5) (N := 5) hx hb hts hi_X5 hown hK hP 0 rfl rfl 1 (by decide) (hts _ (List.mem_of_getElem? (i := 1) rfl)) (fun _ h9 => h9) rfl dX5_write_51 ?_
  refine mu_V (As := [.ref d0]) (rest := []) (wc := [(rd j, .inr (0, [.ref q1, .int (nI n1)])), (q1, .inl (T 0, 440, .inl f1)), (d0, .inr (0, [.ref dq, .int (nI (lnN k n fl))])), (dq, .inl (T 0, 440, .inl F_1))]) (wr := [(lo, .inr (2, [.ref ra, .ref d0, .ref b0, .ref t0, .ref r0])), (ra, .inl (T 2, 6, .inr (.inr (.inr (.inr (fun j => some (rd j))))))), ((rd i), .inr (0, [.ref q0, .int (nI n)])), (q0, .inl (T 0, 440, .inl f))]) ⟨hx, hb, hml, hown, hts⟩ (c_X2_become l D T g H.size (rd j) q1 f1 n1 d0 dq F_1 (lnN k n fl) (wrA k n b) (hp1)) (cwV 1 hts gX5_write_X2_become rfl rfl rfl (by decide +kernel) ⟨Nat.le_of_ble_eq_true rfl, Nat.le_of_ble_eq_true rfl⟩) (va_recv hK hP (ci := 0) (q0 := 2) rfl rfl) hP hD hK hG hS hA [2, 3, 6, 7] [0, 1, 4, 5] rfl (by decide) rfl (by decide) (by decide) ⟨Nat.le_of_ble_eq_true rfl, Nat.le_of_ble_eq_true rfl⟩ rfl hl.1 (Nat.le_of_ble_eq_true rfl) dX5_write_54 rfl (fun u H locs hq4 hP hD hS => ?_)
  obtain ⟨F_3, hu9⟩ : ∃ z, z = u := ⟨_, rfl⟩
  subst hu9
  have hP : va_P D cls [(lo, .inr (2, [.ref ra, .ref d0, .ref b0, .ref t0, .ref r0])), (ra, .inl (T 2, 6, .inr (.inr (.inr (.inr (fun j => some (rd j))))))), ((rd i), .inr (0, [.ref q0, .int (nI n)])), (q0, .inl (T 0, 440, .inl f)), ((rd j), .inr (0, [.ref q1, .int (nI (lnN k n fl))])), (q1, .inl (T 0, 440, .inl F_3)), (d0, .inr (0, [.ref dq, .int (nI (lnN k n fl))])), (dq, .inl (T 0, 440, .inl F_1))] H := hP
  have hD : va_D A [(lo, .inr (2, [.ref ra, .ref d0, .ref b0, .ref t0, .ref r0])), (ra, .inl (T 2, 6, .inr (.inr (.inr (.inr (fun j => some (rd j))))))), ((rd i), .inr (0, [.ref q0, .int (nI n)])), (q0, .inl (T 0, 440, .inl f)), ((rd j), .inr (0, [.ref q1, .int (nI (lnN k n fl))])), (q1, .inl (T 0, 440, .inl F_3)), (d0, .inr (0, [.ref dq, .int (nI (lnN k n fl))])), (dq, .inl (T 0, 440, .inl F_1))] := hD
  have hq4 : RB F_3 (lnN k n fl) (wrA k n b) := hq4
  refine W.eq (g2 := F0 m 57 ls []) rfl ?_
  refine lv_aload hx hb dX5_write_57 (lv_at hl 1 rfl) ?_
  refine va_getN (D := D) (ci := 0) (v := .int (nI (lnN k n fl))) (C := RX2) (T := TX2) (N := 2) hx hb hts hi_X2 hown hK hP 4 rfl rfl 1 (by decide) (nx0 hG) (fun _ h9 => h9) rfl dX5_write_59 ?_
  have hP9 := hP.sub (ws' := [(lo, .inr (2, [.ref ra, .ref d0, .ref b0, .ref t0, .ref r0])), (ra, .inl (T 2, 6, .inr (.inr (.inr (.inr (fun j => some (rd j))))))), ((rd i), .inr (0, [.ref q0, .int (nI n)])), (q0, .inl (T 0, 440, .inl f)), ((rd j), .inr (0, [.ref q1, .int (nI (lnN k n fl))])), (q1, .inl (T 0, 440, .inl F_3)), (d0, .inr (0, [.ref dq, .int (nI (lnN k n fl))])), (dq, .inl (T 0, 440, .inl F_1))]) [0, 1, 2, 3, 4, 5, 6, 7] rfl
  have hD9 := hD.sub (ws' := [(lo, .inr (2, [.ref ra, .ref d0, .ref b0, .ref t0, .ref r0])), (ra, .inl (T 2, 6, .inr (.inr (.inr (.inr (fun j => some (rd j))))))), ((rd i), .inr (0, [.ref q0, .int (nI n)])), (q0, .inl (T 0, 440, .inl f)), ((rd j), .inr (0, [.ref q1, .int (nI (lnN k n fl))])), (q1, .inl (T 0, 440, .inl F_3)), (d0, .inr (0, [.ref dq, .int (nI (lnN k n fl))])), (dq, .inl (T 0, 440, .inl F_1))]) [0, 1, 2, 3, 4, 5, 6, 7] (by decide) rfl
  exact W.iret (v := (nI (lnN k n fl))) hx hb hr (fun t ht hW => ⟨⟨(F_3, F_1), rfl, show RB F_3 (lnN k n fl) (wrA k n b) from hq4, (by rw [ht]; exact hP9), va_K.moved hW.alike hK, hD9⟩, hS.F ht⟩) hS.2.2 dX5_write_62
set_option maxHeartbeats 4000000 in
set_option maxRecDepth 100000 in
theorem c_write_a (l : Launch) (D : va_G) (T : Nat → ClassId) (g : Nat → Nat) (sz : Nat) (lo : Nat) (ra : Nat) (d0 : Nat) (b0 : Nat) (t0 : Nat) (r0 : Nat) (rd : Nat → Nat) (i : Nat) (q0 : Nat) (f : Nat → Int32) (n : Nat) (dq : Nat) (df : Nat → Int32) (dn : Nat) (b : Nat → Nat) (hb9 : RB f n b) (k : Nat) (hk : k < 3) (fl : Nat) (hn : n ≤ 320 ∧ fl < 2) (hm : lnN k n fl ≤ 320) (hi : i < 6) : MU l yX5_write wsX5_write ({ frames := 4, cells := 0, slots := 0, locals := 95 } : Room) D T g [.ref lo, .int (nI i), .int (nI i), .int (nI k), .int (nI fl)] [(lo, .inr (2, [.ref ra, .ref d0, .ref b0, .ref t0, .ref r0])), (ra, .inl (T 2, 6, .inr (.inr (.inr (.inr (fun j => some (rd j))))))), (rd i, .inr (0, [.ref q0, .int (nI n)])), (q0, .inl (T 0, 440, .inl f)), (d0, .inr (0, [.ref dq, .int (nI dn)])), (dq, .inl (T 0, 440, .inl df))] sz (fun u : (Nat → Int32) × (Nat → Int32) => some (.int (nI (lnN k n fl)))) (fun u : (Nat → Int32) × (Nat → Int32) => RB u.1 (lnN k n fl) (wrA k n b)) (fun u : (Nat → Int32) × (Nat → Int32) => [(lo, .inr (2, [.ref ra, .ref d0, .ref b0, .ref t0, .ref r0])), (ra, .inl (T 2, 6, .inr (.inr (.inr (.inr (fun j => some (rd j))))))), (rd i, .inr (0, [.ref q0, .int (nI (lnN k n fl))])), (q0, .inl (T 0, 440, .inl u.1)), (d0, .inr (0, [.ref dq, .int (nI (lnN k n fl))])), (dq, .inl (T 0, 440, .inl u.2))]) 0 0 := by
  refine Met.ofW (cc := cX5_write) (maxL := 8) (ret := (some .int)) (by decide) rfl ?_
  intro p e s m args below meth c s₁ B hml hv
  obtain ⟨rfl, hsz, hP, hK, hD0, hG⟩ := hv
  have hx := B.exec
  have hb := B.bytes
  have hr := B.returns
  have hts := atoms_spec (ws := wsX5_write) B.pre
  have hown : s.vm.findClass RX5 = some m.cls := findClass_of_methodNamed B.named
  have hlocks := B.notSynchronized
  have hi_X2 : ∀ w ∈ wsX20, w ∈ wsX5_write := by decide +kernel
  have hi_X5 : ∀ w ∈ wsX50, w ∈ wsX5_write := by decide +kernel
  subst hsz
  have hD := hD0.self (sz := s.heap.size)
  generalize hAe : va_A [(lo, .inr (2, [.ref ra, .ref d0, .ref b0, .ref t0, .ref r0])), (ra, .inl (T 2, 6, .inr (.inr (.inr (.inr (fun j => some (rd j))))))), (rd i, .inr (0, [.ref q0, .int (nI n)])), (q0, .inl (T 0, 440, .inl f)), (d0, .inr (0, [.ref dq, .int (nI dn)])), (dq, .inl (T 0, 440, .inl df))] s.heap.size = A at hD hG ⊢
  have hA : ∀ q : Nat, s.heap.size ≤ q → A q := fun q h => by rw [← hAe]; exact Or.inr h
  have hS : va_S A s.heap s.heap [] := va_S.rf
  have hP : va_P D cls [(lo, .inr (2, [.ref ra, .ref d0, .ref b0, .ref t0, .ref r0])), (ra, .inl (T 2, 6, .inr (.inr (.inr (.inr (fun j => some (rd j))))))), (rd i, .inr (0, [.ref q0, .int (nI n)])), (q0, .inl (T 0, 440, .inl f)), (d0, .inr (0, [.ref dq, .int (nI dn)])), (dq, .inl (T 0, 440, .inl df))] s.heap := hP
  have hl := lv_entry ([.ref lo, .int (nI i), .int (nI i), .int (nI k), .int (nI fl)]) (n := 8) (Nat.le_of_ble_eq_true rfl)
  rw [lg_entry_eq]
  generalize (lg_sl ([.ref lo, .int (nI i), .int (nI i), .int (nI k), .int (nI fl)]) ++ List.replicate (8 - (lg_sl ([.ref lo, .int (nI i), .int (nI i), .int (nI k), .int (nI fl)])).length) Slot.unset).toArray = ls at hl ⊢
  have hl : lv_has ls 8 [(0, .ref lo), (1, .int (nI i)), (2, .int (nI i)), (3, .int (nI k)), (4, .int (nI fl))] := hl
  refine lv_aload_n hx hb dX5_write_0 rfl (lv_at hl 0 rfl) ?_
  refine lv_iload_n hx hb dX5_write_1 rfl (lv_at hl 1 rfl) ?_
  refine ro_V (As := [.int (nI i)]) (rest := []) (wc := [(lo, .inr (2, [.ref ra, .ref d0, .ref b0, .ref t0, .ref r0])), (ra, .inl (T 2, 6, .inr (.inr (.inr (.inr (fun j => some (rd j)))))))]) (r := .ref (rd i)) ⟨hx, hb, hml, hown, hts⟩ (c_X5_rowAt l D T g lo ra d0 b0 t0 r0 rd i hi) (cwV 1 hts gX5_write_X5_rowAt rfl rfl rfl (by decide +kernel) ⟨Nat.le_of_ble_eq_true rfl, Nat.le_of_ble_eq_true rfl⟩) (va_recv hK hP (ci := 2) (q0 := 0) rfl rfl) hP hK hG hS [0, 1] rfl ⟨Nat.zero_le _, Nat.zero_le _⟩ rfl hl.1 (Nat.le_of_ble_eq_true rfl) dX5_write_2 rfl ?_
  refine lv_astore (lv' := [(5, .ref (rd i)), (0, .ref lo), (1, .int (nI i)), (2, .int (nI i)), (3, .int (nI k)), (4, .int (nI fl))]) hx hb dX5_write_5 hl (by decide) rfl (fun ls hl => ?_)
  refine lv_aload_n hx hb dX5_write_7 rfl (lv_at hl 1 rfl) ?_
  refine lv_iload_n hx hb dX5_write_8 rfl (lv_at hl 3 rfl) ?_
  refine ro_V (As := [.int (nI i)]) (rest := []) (wc := [(lo, .inr (2, [.ref ra, .ref d0, .ref b0, .ref t0, .ref r0])), (ra, .inl (T 2, 6, .inr (.inr (.inr (.inr (fun j => some (rd j)))))))]) (r := .ref (rd i)) ⟨hx, hb, hml, hown, hts⟩ (c_X5_rowAt l D T g lo ra d0 b0 t0 r0 rd i hi) (cwV 1 hts gX5_write_X5_rowAt rfl rfl rfl (by decide +kernel) ⟨Nat.le_of_ble_eq_true rfl, Nat.le_of_ble_eq_true rfl⟩) (va_recv hK hP (ci := 2) (q0 := 0) rfl rfl) hP hK hG hS [0, 1] rfl ⟨Nat.zero_le _, Nat.zero_le _⟩ rfl hl.1 (Nat.le_of_ble_eq_true rfl) dX5_write_9 rfl ?_
  refine lv_astore (lv' := [(6, .ref (rd i)), (5, .ref (rd i)), (0, .ref lo), (1, .int (nI i)), (2, .int (nI i)), (3, .int (nI k)), (4, .int (nI fl))]) hx hb dX5_write_12 hl (by decide) rfl (fun ls hl => ?_)
  refine lv_iload_n hx hb dX5_write_14 rfl (lv_at hl 5 rfl) ?_
  refine ro_S (As := [.int (nI k)]) (rest := []) (wc := []) (r := .ref (g k)) ⟨hx, hb, hml, hown, hts⟩ (c_X5_kindAt l D T g k hk) (va_cwS 1 hts gX5_write_X5_kindAt rfl rfl rfl (by decide +kernel) ⟨Nat.le_of_ble_eq_true rfl, Nat.le_of_ble_eq_true rfl⟩) hP hK hG hS [] rfl ⟨Nat.zero_le _, Nat.zero_le _⟩ rfl hl.1 (Nat.le_of_ble_eq_true rfl) dX5_write_15 rfl ?_
  refine lv_astore (lv' := [(7, .ref (g k)), (6, .ref (rd i)), (5, .ref (rd i)), (0, .ref lo), (1, .int (nI i)), (2, .int (nI i)), (3, .int (nI k)), (4, .int (nI fl))]) hx hb dX5_write_18 hl (by decide) rfl (fun ls hl => ?_)
  refine lv_aload hx hb dX5_write_20 (lv_at hl 2 rfl) ?_
  refine va_getN (D := D) (ci := 0) (v := .int (nI n)) (C := RX2) (T := TX2) (N := 2) hx hb hts hi_X2 hown hK hP 2 rfl rfl 1 (by decide) (nx0 hG) (fun _ h9 => h9) rfl dX5_write_22 ?_
  refine lv_aload hx hb dX5_write_25 (lv_at hl 0 rfl) ?_
  refine lv_iload hx hb dX5_write_27 (lv_at hl 7 rfl) ?_
  refine ro_S (As := [.int (nI n), .ref (g k), .int (nI fl)]) (rest := []) (wc := []) (r := .int (nI (lnN k n fl))) ⟨hx, hb, hml, hown, hts⟩ (c_X4_lengthOf l D T g n k fl hk hn) (va_cwS 3 hts gX5_write_X4_lengthOf rfl rfl rfl (by decide +kernel) ⟨Nat.le_of_ble_eq_true rfl, Nat.le_of_ble_eq_true rfl⟩) hP hK hG hS [] rfl ⟨Nat.zero_le _, Nat.zero_le _⟩ rfl hl.1 (Nat.le_of_ble_eq_true rfl) dX5_write_29 rfl ?_
  refine rv_S (As := [.int (nI (lnN k n fl))]) (rest := []) (wc := []) ⟨hx, hb, hml, hown, hts⟩ (c_X5_checkRoom l D T g (lnN k n fl) (by omega)) (va_cwS 1 hts gX5_write_X5_checkRoom rfl rfl rfl (by decide +kernel) ⟨Nat.le_of_ble_eq_true rfl, Nat.le_of_ble_eq_true rfl⟩) hP hK hG hS [] rfl ⟨Nat.zero_le _, Nat.zero_le _⟩ rfl hl.1 (Nat.le_of_ble_eq_true rfl) dX5_write_32 rfl ?_
  refine lv_aload hx hb dX5_write_35 (lv_at hl 2 rfl) ?_
  refine lv_aload hx hb dX5_write_37 (lv_at hl 0 rfl) ?_
  refine lv_iload hx hb dX5_write_39 (lv_at hl 7 rfl) ?_
  refine lv_aload_n hx hb dX5_write_41 rfl (lv_at hl 3 rfl) ?_
  refine va_get (D := D) (ci := 2) (v := .ref d0) (C := RX5) (T := TX5) (N := 5) hx hb hts hi_X5 hown hK hP 0 rfl rfl 1 (by decide) (hts _ (List.mem_of_getElem? (i := 1) rfl)) (fun _ h9 => h9) rfl dX5_write_42 ?_
  refine mu_S (As := [.ref (rd i), .ref (g k), .int (nI fl), .ref d0]) (rest := []) (wc := [(rd i, .inr (0, [.ref q0, .int (nI n)])), (q0, .inl (T 0, 440, .inl f)), (d0, .inr (0, [.ref dq, .int (nI dn)])), (dq, .inl (T 0, 440, .inl df))]) (wr := [(lo, .inr (2, [.ref ra, .ref d0, .ref b0, .ref t0, .ref r0])), (ra, .inl (T 2, 6, .inr (.inr (.inr (.inr (fun j => some (rd j)))))))]) ⟨hx, hb, hml, hown, hts⟩ (c_X4_writeBytes l D T g s.heap.size (rd i) q0 f n k fl d0 dq df dn b (hb9) hk hn) (va_cwS 4 hts gX5_write_X4_writeBytes rfl rfl rfl (by decide +kernel) ⟨Nat.le_of_ble_eq_true rfl, Nat.le_of_ble_eq_true rfl⟩) hP hD hK hG hS hA [2, 3, 4, 5] [0, 1] rfl (by decide) rfl (by decide) (by decide) ⟨Nat.le_of_ble_eq_true rfl, Nat.le_of_ble_eq_true rfl⟩ rfl hl.1 (Nat.le_of_ble_eq_true rfl) dX5_write_45 rfl (fun u H locs hq2 hP hD hS => ?_)
  obtain ⟨F_1, hu9⟩ : ∃ z, z = u := ⟨_, rfl⟩
  subst hu9
  have hP : va_P D cls [(lo, .inr (2, [.ref ra, .ref d0, .ref b0, .ref t0, .ref r0])), (ra, .inl (T 2, 6, .inr (.inr (.inr (.inr (fun j => some (rd j))))))), ((rd i), .inr (0, [.ref q0, .int (nI n)])), (q0, .inl (T 0, 440, .inl f)), (d0, .inr (0, [.ref dq, .int (nI (lnN k n fl))])), (dq, .inl (T 0, 440, .inl F_1))] H := hP
  have hD : va_D A [(lo, .inr (2, [.ref ra, .ref d0, .ref b0, .ref t0, .ref r0])), (ra, .inl (T 2, 6, .inr (.inr (.inr (.inr (fun j => some (rd j))))))), ((rd i), .inr (0, [.ref q0, .int (nI n)])), (q0, .inl (T 0, 440, .inl f)), (d0, .inr (0, [.ref dq, .int (nI (lnN k n fl))])), (dq, .inl (T 0, 440, .inl F_1))] := hD
  have hp1 : RB F_1 (lnN k n fl) (wrA k n b) := hq2
  refine W.eq (g2 := F0 m 48 ls []) rfl ?_
  refine lv_aload hx hb dX5_write_48 (lv_at hl 1 rfl) ?_
  refine lv_aload_n hx hb dX5_write_50 rfl (lv_at hl 3 rfl) ?_
  refine va_get (D := D) (ci := 2) (v := .ref d0) (C := RX5) (T := TX5) (N := 5) hx hb hts hi_X5 hown hK hP 0 rfl rfl 1 (by decide) (hts _ (List.mem_of_getElem? (i := 1) rfl)) (fun _ h9 => h9) rfl dX5_write_51 ?_
  refine mu_V (As := [.ref d0]) (rest := []) (wc := [((rd i), .inr (0, [.ref q0, .int (nI n)])), (q0, .inl (T 0, 440, .inl f)), (d0, .inr (0, [.ref dq, .int (nI (lnN k n fl))])), (dq, .inl (T 0, 440, .inl F_1))]) (wr := [(lo, .inr (2, [.ref ra, .ref d0, .ref b0, .ref t0, .ref r0])), (ra, .inl (T 2, 6, .inr (.inr (.inr (.inr (fun j => some (rd j)))))))]) ⟨hx, hb, hml, hown, hts⟩ (c_X2_become l D T g H.size (rd i) q0 f n d0 dq F_1 (lnN k n fl) (wrA k n b) (hp1)) (cwV 1 hts gX5_write_X2_become rfl rfl rfl (by decide +kernel) ⟨Nat.le_of_ble_eq_true rfl, Nat.le_of_ble_eq_true rfl⟩) (va_recv hK hP (ci := 0) (q0 := 2) rfl rfl) hP hD hK hG hS hA [2, 3, 4, 5] [0, 1] rfl (by decide) rfl (by decide) (by decide) ⟨Nat.le_of_ble_eq_true rfl, Nat.le_of_ble_eq_true rfl⟩ rfl hl.1 (Nat.le_of_ble_eq_true rfl) dX5_write_54 rfl (fun u H locs hq4 hP hD hS => ?_)
  obtain ⟨F_3, hu9⟩ : ∃ z, z = u := ⟨_, rfl⟩
  subst hu9
  have hP : va_P D cls [(lo, .inr (2, [.ref ra, .ref d0, .ref b0, .ref t0, .ref r0])), (ra, .inl (T 2, 6, .inr (.inr (.inr (.inr (fun j => some (rd j))))))), ((rd i), .inr (0, [.ref q0, .int (nI (lnN k n fl))])), (q0, .inl (T 0, 440, .inl F_3)), (d0, .inr (0, [.ref dq, .int (nI (lnN k n fl))])), (dq, .inl (T 0, 440, .inl F_1))] H := hP
  have hD : va_D A [(lo, .inr (2, [.ref ra, .ref d0, .ref b0, .ref t0, .ref r0])), (ra, .inl (T 2, 6, .inr (.inr (.inr (.inr (fun j => some (rd j))))))), ((rd i), .inr (0, [.ref q0, .int (nI (lnN k n fl))])), (q0, .inl (T 0, 440, .inl F_3)), (d0, .inr (0, [.ref dq, .int (nI (lnN k n fl))])), (dq, .inl (T 0, 440, .inl F_1))] := hD
  have hq4 : RB F_3 (lnN k n fl) (wrA k n b) := hq4
  refine W.eq (g2 := F0 m 57 ls []) rfl ?_
  refine lv_aload hx hb dX5_write_57 (lv_at hl 1 rfl) ?_
  refine va_getN (D := D) (ci := 0) (v := .int (nI (lnN k n fl))) (C := RX2) (T := TX2) (N := 2) hx hb hts hi_X2 hown hK hP 2 rfl rfl 1 (by decide) (nx0 hG) (fun _ h9 => h9) rfl dX5_write_59 ?_
  have hP9 := hP.sub (ws' := [(lo, .inr (2, [.ref ra, .ref d0, .ref b0, .ref t0, .ref r0])), (ra, .inl (T 2, 6, .inr (.inr (.inr (.inr (fun j => some (rd j))))))), ((rd i), .inr (0, [.ref q0, .int (nI (lnN k n fl))])), (q0, .inl (T 0, 440, .inl F_3)), (d0, .inr (0, [.ref dq, .int (nI (lnN k n fl))])), (dq, .inl (T 0, 440, .inl F_1))]) [0, 1, 2, 3, 4, 5] rfl
  have hD9 := hD.sub (ws' := [(lo, .inr (2, [.ref ra, .ref d0, .ref b0, .ref t0, .ref r0])), (ra, .inl (T 2, 6, .inr (.inr (.inr (.inr (fun j => some (rd j))))))), ((rd i), .inr (0, [.ref q0, .int (nI (lnN k n fl))])), (q0, .inl (T 0, 440, .inl F_3)), (d0, .inr (0, [.ref dq, .int (nI (lnN k n fl))])), (dq, .inl (T 0, 440, .inl F_1))]) [0, 1, 2, 3, 4, 5] (by decide) rfl
  exact W.iret (v := (nI (lnN k n fl))) hx hb hr (fun t ht hW => ⟨⟨(F_3, F_1), rfl, show RB F_3 (lnN k n fl) (wrA k n b) from hq4, (by rw [ht]; exact hP9), va_K.moved hW.alike hK, hD9⟩, hS.F ht⟩) hS.2.2 dX5_write_62
set_option maxHeartbeats 4000000 in
set_option maxRecDepth 100000 in
theorem c_writeText (l : Launch) (D : va_G) (T : Nat → ClassId) (g : Nat → Nat) (sz : Nat) (lo : Nat) (ra : Nat) (d0 : Nat) (b0 : Nat) (t0 : Nat) (r0 : Nat) (rd : Nat → Nat) (i : Nat) (q0 : Nat) (f : Nat → Int32) (n : Nat) (j : Nat) (q1 : Nat) (f1 : Nat → Int32) (n1 : Nat) (tv : Nat) (ml : Int32) (cnt : Nat) (k0 : Nat) (fb : Nat → Int32) (htb : sb_Fit fb) (hk0 : k0 ≤ 5 ∧ cnt ≤ 574) (b : Nat → Nat) (hb9 : RB f n b) (k : Nat) (hk : k < 3) (fl : Nat) (hn : n ≤ 320 ∧ fl < 2) (hm : lnN k n fl ≤ 320) (hi : i < 6) (hj : j < 6) : MU l yX5_writeText wsX5_writeText ({ frames := 7, cells := lvL k0 (lnN k n fl) - k0, slots := slL (lvL k0 (lnN k n fl)) - slL k0, locals := 181 } : Room) D T g [.ref lo, .int (nI i), .int (nI j), .int (nI k), .int (nI fl)] [(lo, .inr (2, [.ref ra, .ref d0, .ref b0, .ref t0, .ref r0])), (ra, .inl (T 2, 6, .inr (.inr (.inr (.inr (fun j => some (rd j))))))), (rd i, .inr (0, [.ref q0, .int (nI n)])), (q0, .inl (T 0, 440, .inl f)), (rd j, .inr (0, [.ref q1, .int (nI n1)])), (q1, .inl (T 0, 440, .inl f1)), (t0, .inr (4, [.ref tv, .int (nI 0), .int ml, .int (nI cnt)])), (tv, .inl (T 1, capL k0, .inl fb))] sz (fun u : Nat × Int32 × (Nat → Int32) × (Nat → Int32) => some (.int (nI (lnN k n fl)))) (fun u : Nat × Int32 × (Nat → Int32) × (Nat → Int32) => RB u.2.2.2 (lnN k n fl) (wrA k n b) ∧ sb_Fit u.2.2.1) (fun u : Nat × Int32 × (Nat → Int32) × (Nat → Int32) => [(lo, .inr (2, [.ref ra, .ref d0, .ref b0, .ref t0, .ref r0])), (ra, .inl (T 2, 6, .inr (.inr (.inr (.inr (fun j => some (rd j))))))), (rd i, .inr (0, [.ref q0, .int (nI n)])), (q0, .inl (T 0, 440, .inl f)), (rd j, .inr (0, [.ref q1, .int (nI (lnN k n fl))])), (q1, .inl (T 0, 440, .inl u.2.2.2)), (t0, .inr (4, [.ref u.1, .int (nI 0), .int u.2.1, .int (nI (lnN k n fl))])), (u.1, .inl (T 1, capL (lvL k0 (lnN k n fl)), .inl u.2.2.1))]) (lvL k0 (lnN k n fl) - k0) (slL (lvL k0 (lnN k n fl)) - slL k0) := by
  refine Met.ofW (cc := cX5_writeText) (maxL := 8) (ret := (some .int)) (by decide) rfl ?_
  intro p e s m args below meth c s₁ B hml hv
  obtain ⟨rfl, hsz, hP, hK, hD0, hG⟩ := hv
  have hx := B.exec
  have hb := B.bytes
  have hr := B.returns
  have hts := atoms_spec (ws := wsX5_writeText) B.pre
  have hown : s.vm.findClass RX5 = some m.cls := findClass_of_methodNamed B.named
  have hlocks := B.notSynchronized
  have hi_X2 : ∀ w ∈ wsX20, w ∈ wsX5_writeText := by decide +kernel
  have hi_X5 : ∀ w ∈ wsX50, w ∈ wsX5_writeText := by decide +kernel
  subst hsz
  have hD := hD0.self (sz := s.heap.size)
  generalize hAe : va_A [(lo, .inr (2, [.ref ra, .ref d0, .ref b0, .ref t0, .ref r0])), (ra, .inl (T 2, 6, .inr (.inr (.inr (.inr (fun j => some (rd j))))))), (rd i, .inr (0, [.ref q0, .int (nI n)])), (q0, .inl (T 0, 440, .inl f)), (rd j, .inr (0, [.ref q1, .int (nI n1)])), (q1, .inl (T 0, 440, .inl f1)), (t0, .inr (4, [.ref tv, .int (nI 0), .int ml, .int (nI cnt)])), (tv, .inl (T 1, capL k0, .inl fb))] s.heap.size = A at hD hG ⊢
  have hA : ∀ q : Nat, s.heap.size ≤ q → A q := fun q h => by rw [← hAe]; exact Or.inr h
  have hS : va_S A s.heap s.heap [] := va_S.rf
  have hP : va_P D cls [(lo, .inr (2, [.ref ra, .ref d0, .ref b0, .ref t0, .ref r0])), (ra, .inl (T 2, 6, .inr (.inr (.inr (.inr (fun j => some (rd j))))))), (rd i, .inr (0, [.ref q0, .int (nI n)])), (q0, .inl (T 0, 440, .inl f)), (rd j, .inr (0, [.ref q1, .int (nI n1)])), (q1, .inl (T 0, 440, .inl f1)), (t0, .inr (4, [.ref tv, .int (nI 0), .int ml, .int (nI cnt)])), (tv, .inl (T 1, capL k0, .inl fb))] s.heap := hP
  have hl := lv_entry ([.ref lo, .int (nI i), .int (nI j), .int (nI k), .int (nI fl)]) (n := 8) (Nat.le_of_ble_eq_true rfl)
  rw [lg_entry_eq]
  generalize (lg_sl ([.ref lo, .int (nI i), .int (nI j), .int (nI k), .int (nI fl)]) ++ List.replicate (8 - (lg_sl ([.ref lo, .int (nI i), .int (nI j), .int (nI k), .int (nI fl)])).length) Slot.unset).toArray = ls at hl ⊢
  have hl : lv_has ls 8 [(0, .ref lo), (1, .int (nI i)), (2, .int (nI j)), (3, .int (nI k)), (4, .int (nI fl))] := hl
  have hle := lnN_le (k := k) (fl := fl) hn.1
  refine lv_aload_n hx hb dX5_writeText_0 rfl (lv_at hl 0 rfl) ?_
  refine lv_iload_n hx hb dX5_writeText_1 rfl (lv_at hl 1 rfl) ?_
  refine ro_V (As := [.int (nI i)]) (rest := []) (wc := [(lo, .inr (2, [.ref ra, .ref d0, .ref b0, .ref t0, .ref r0])), (ra, .inl (T 2, 6, .inr (.inr (.inr (.inr (fun j => some (rd j)))))))]) (r := .ref (rd i)) ⟨hx, hb, hml, hown, hts⟩ (c_X5_rowAt l D T g lo ra d0 b0 t0 r0 rd i hi) (cwV 1 hts gX5_writeText_X5_rowAt rfl rfl rfl (by decide +kernel) ⟨Nat.le_of_ble_eq_true rfl, Nat.le_of_ble_eq_true rfl⟩) (va_recv hK hP (ci := 2) (q0 := 0) rfl rfl) hP hK hG hS [0, 1] rfl ⟨Nat.zero_le _, Nat.zero_le _⟩ rfl hl.1 (Nat.le_of_ble_eq_true rfl) dX5_writeText_2 rfl ?_
  refine lv_astore (lv' := [(5, .ref (rd i)), (0, .ref lo), (1, .int (nI i)), (2, .int (nI j)), (3, .int (nI k)), (4, .int (nI fl))]) hx hb dX5_writeText_5 hl (by decide) rfl (fun ls hl => ?_)
  refine lv_aload_n hx hb dX5_writeText_7 rfl (lv_at hl 1 rfl) ?_
  refine lv_iload_n hx hb dX5_writeText_8 rfl (lv_at hl 3 rfl) ?_
  refine ro_V (As := [.int (nI j)]) (rest := []) (wc := [(lo, .inr (2, [.ref ra, .ref d0, .ref b0, .ref t0, .ref r0])), (ra, .inl (T 2, 6, .inr (.inr (.inr (.inr (fun j => some (rd j)))))))]) (r := .ref (rd j)) ⟨hx, hb, hml, hown, hts⟩ (c_X5_rowAt l D T g lo ra d0 b0 t0 r0 rd j hj) (cwV 1 hts gX5_writeText_X5_rowAt rfl rfl rfl (by decide +kernel) ⟨Nat.le_of_ble_eq_true rfl, Nat.le_of_ble_eq_true rfl⟩) (va_recv hK hP (ci := 2) (q0 := 0) rfl rfl) hP hK hG hS [0, 1] rfl ⟨Nat.zero_le _, Nat.zero_le _⟩ rfl hl.1 (Nat.le_of_ble_eq_true rfl) dX5_writeText_9 rfl ?_
  refine lv_astore (lv' := [(6, .ref (rd j)), (5, .ref (rd i)), (0, .ref lo), (1, .int (nI i)), (2, .int (nI j)), (3, .int (nI k)), (4, .int (nI fl))]) hx hb dX5_writeText_12 hl (by decide) rfl (fun ls hl => ?_)
  refine lv_iload_n hx hb dX5_writeText_14 rfl (lv_at hl 5 rfl) ?_
  refine ro_S (As := [.int (nI k)]) (rest := []) (wc := []) (r := .ref (g k)) ⟨hx, hb, hml, hown, hts⟩ (c_X5_kindAt l D T g k hk) (va_cwS 1 hts gX5_writeText_X5_kindAt rfl rfl rfl (by decide +kernel) ⟨Nat.le_of_ble_eq_true rfl, Nat.le_of_ble_eq_true rfl⟩) hP hK hG hS [] rfl ⟨Nat.zero_le _, Nat.zero_le _⟩ rfl hl.1 (Nat.le_of_ble_eq_true rfl) dX5_writeText_15 rfl ?_
  refine lv_astore (lv' := [(7, .ref (g k)), (6, .ref (rd j)), (5, .ref (rd i)), (0, .ref lo), (1, .int (nI i)), (2, .int (nI j)), (3, .int (nI k)), (4, .int (nI fl))]) hx hb dX5_writeText_18 hl (by decide) rfl (fun ls hl => ?_)
  refine lv_aload hx hb dX5_writeText_20 (lv_at hl 2 rfl) ?_
  refine va_getN (D := D) (ci := 0) (v := .int (nI n)) (C := RX2) (T := TX2) (N := 2) hx hb hts hi_X2 hown hK hP 2 rfl rfl 1 (by decide) (nx0 hG) (fun _ h9 => h9) rfl dX5_writeText_22 ?_
  refine lv_aload hx hb dX5_writeText_25 (lv_at hl 0 rfl) ?_
  refine lv_iload hx hb dX5_writeText_27 (lv_at hl 7 rfl) ?_
  refine ro_S (As := [.int (nI n), .ref (g k), .int (nI fl)]) (rest := []) (wc := []) (r := .int (nI (lnN k n fl))) ⟨hx, hb, hml, hown, hts⟩ (c_X4_lengthOf l D T g n k fl hk hn) (va_cwS 3 hts gX5_writeText_X4_lengthOf rfl rfl rfl (by decide +kernel) ⟨Nat.le_of_ble_eq_true rfl, Nat.le_of_ble_eq_true rfl⟩) hP hK hG hS [] rfl ⟨Nat.zero_le _, Nat.zero_le _⟩ rfl hl.1 (Nat.le_of_ble_eq_true rfl) dX5_writeText_29 rfl ?_
  refine rv_S (As := [.int (nI (lnN k n fl))]) (rest := []) (wc := []) ⟨hx, hb, hml, hown, hts⟩ (c_X5_checkRoom l D T g (lnN k n fl) (by omega)) (va_cwS 1 hts gX5_writeText_X5_checkRoom rfl rfl rfl (by decide +kernel) ⟨Nat.le_of_ble_eq_true rfl, Nat.le_of_ble_eq_true rfl⟩) hP hK hG hS [] rfl ⟨Nat.zero_le _, Nat.zero_le _⟩ rfl hl.1 (Nat.le_of_ble_eq_true rfl) dX5_writeText_32 rfl ?_
  refine lv_aload hx hb dX5_writeText_35 (lv_at hl 2 rfl) ?_
  refine lv_aload hx hb dX5_writeText_37 (lv_at hl 0 rfl) ?_
  refine lv_iload hx hb dX5_writeText_39 (lv_at hl 7 rfl) ?_
  refine lv_aload_n hx hb dX5_writeText_41 rfl (lv_at hl 3 rfl) ?_
  refine va_get (D := D) (ci := 2) (v := .ref t0) (C := RX5) (T := TX5) (N := 5) hx hb hts hi_X5 hown hK hP 0 rfl rfl 3 (by decide) (hts _ (List.mem_of_getElem? (i := 1) rfl)) (fun _ h9 => h9) rfl dX5_writeText_42 ?_
  refine mu_S (As := [.ref (rd i), .ref (g k), .int (nI fl), .ref t0]) (rest := []) (wc := [(rd i, .inr (0, [.ref q0, .int (nI n)])), (q0, .inl (T 0, 440, .inl f)), (t0, .inr (4, [.ref tv, .int (nI 0), .int ml, .int (nI cnt)])), (tv, .inl (T 1, capL k0, .inl fb))]) (wr := [(lo, .inr (2, [.ref ra, .ref d0, .ref b0, .ref t0, .ref r0])), (ra, .inl (T 2, 6, .inr (.inr (.inr (.inr (fun j => some (rd j))))))), (rd j, .inr (0, [.ref q1, .int (nI n1)])), (q1, .inl (T 0, 440, .inl f1))]) ⟨hx, hb, hml, hown, hts⟩ (c_X4_writeSigns l D T g s.heap.size (rd i) q0 f n k fl t0 tv ml cnt k0 fb b (hb9) (htb) hk (hk0.1) (⟨hn.1, hn.2, hk0.2⟩)) (va_cwS 4 hts gX5_writeText_X4_writeSigns rfl rfl rfl (by decide +kernel) ⟨Nat.le_of_ble_eq_true rfl, Nat.le_of_ble_eq_true rfl⟩) hP hD hK hG hS hA [2, 3, 6, 7] [0, 1, 4, 5] rfl (by decide) rfl (by decide) (by decide) ⟨Nat.le_of_eq (Nat.zero_add _), Nat.le_of_eq (Nat.zero_add _)⟩ rfl hl.1 (Nat.le_of_ble_eq_true rfl) dX5_writeText_45 rfl (fun u H locs hq4 hP hD hS => ?_)
  obtain ⟨tv2_1, ml3_2, fb2_3⟩ := u
  refine W.widen (k := lvL k0 (lnN k n fl) - k0) (n := slL (lvL k0 (lnN k n fl)) - slL k0) (Nat.le_of_eq (Nat.zero_add _)) (Nat.le_of_eq (Nat.zero_add _)) ?_
  have hP : va_P D cls [(lo, .inr (2, [.ref ra, .ref d0, .ref b0, .ref t0, .ref r0])), (ra, .inl (T 2, 6, .inr (.inr (.inr (.inr (fun j => some (rd j))))))), (rd j, .inr (0, [.ref q1, .int (nI n1)])), (q1, .inl (T 0, 440, .inl f1)), ((rd i), .inr (0, [.ref q0, .int (nI n)])), (q0, .inl (T 0, 440, .inl f)), (t0, .inr (4, [.ref tv2_1, .int (nI 0), .int ml3_2, .int (nI (lnN k n fl))])), (tv2_1, .inl (T 1, capL (lvL k0 (lnN k n fl)), .inl fb2_3))] H := hP
  have hD : va_D A [(lo, .inr (2, [.ref ra, .ref d0, .ref b0, .ref t0, .ref r0])), (ra, .inl (T 2, 6, .inr (.inr (.inr (.inr (fun j => some (rd j))))))), (rd j, .inr (0, [.ref q1, .int (nI n1)])), (q1, .inl (T 0, 440, .inl f1)), ((rd i), .inr (0, [.ref q0, .int (nI n)])), (q0, .inl (T 0, 440, .inl f)), (t0, .inr (4, [.ref tv2_1, .int (nI 0), .int ml3_2, .int (nI (lnN k n fl))])), (tv2_1, .inl (T 1, capL (lvL k0 (lnN k n fl)), .inl fb2_3))] := hD
  have hp1 : TB fb2_3 (capL (lvL k0 (lnN k n fl))) (lnN k n fl) (wrA k n b) := hq4
  refine W.eq (g2 := F0 m 48 ls []) rfl ?_
  refine lv_aload hx hb dX5_writeText_48 (lv_at hl 1 rfl) ?_
  refine lv_aload_n hx hb dX5_writeText_50 rfl (lv_at hl 3 rfl) ?_
  refine va_get (D := D) (ci := 2) (v := .ref t0) (C := RX5) (T := TX5) (N := 5) hx hb hts hi_X5 hown hK hP 0 rfl rfl 3 (by decide) (hts _ (List.mem_of_getElem? (i := 1) rfl)) (fun _ h9 => h9) rfl dX5_writeText_51 ?_
  refine mu_V (As := [.ref t0]) (rest := []) (wc := [(rd j, .inr (0, [.ref q1, .int (nI n1)])), (q1, .inl (T 0, 440, .inl f1)), (t0, .inr (4, [.ref tv2_1, .int (nI 0), .int ml3_2, .int (nI (lnN k n fl))])), (tv2_1, .inl (T 1, capL (lvL k0 (lnN k n fl)), .inl fb2_3))]) (wr := [(lo, .inr (2, [.ref ra, .ref d0, .ref b0, .ref t0, .ref r0])), (ra, .inl (T 2, 6, .inr (.inr (.inr (.inr (fun j => some (rd j))))))), ((rd i), .inr (0, [.ref q0, .int (nI n)])), (q0, .inl (T 0, 440, .inl f))]) ⟨hx, hb, hml, hown, hts⟩ (c_X2_becomeCodes l D T g H.size (rd j) q1 f1 n1 t0 tv2_1 ml3_2 (lnN k n fl) (capL (lvL k0 (lnN k n fl))) fb2_3 (wrA k n b) (hp1) (by omega)) (cwV 1 hts gX5_writeText_X2_becomeCodes rfl rfl rfl (by decide +kernel) ⟨Nat.le_of_ble_eq_true rfl, Nat.le_of_ble_eq_true rfl⟩) (va_recv hK hP (ci := 0) (q0 := 2) rfl rfl) hP hD hK hG hS hA [2, 3, 6, 7] [0, 1, 4, 5] rfl (by decide) rfl (by decide) (by decide) ⟨Nat.le_refl _, Nat.le_refl _⟩ rfl hl.1 (Nat.le_of_ble_eq_true rfl) dX5_writeText_54 rfl (fun u H locs hq6 hP hD hS => ?_)
  obtain ⟨F_5, hu9⟩ : ∃ z, z = u := ⟨_, rfl⟩
  subst hu9
  have hP : va_P D cls [(lo, .inr (2, [.ref ra, .ref d0, .ref b0, .ref t0, .ref r0])), (ra, .inl (T 2, 6, .inr (.inr (.inr (.inr (fun j => some (rd j))))))), ((rd i), .inr (0, [.ref q0, .int (nI n)])), (q0, .inl (T 0, 440, .inl f)), ((rd j), .inr (0, [.ref q1, .int (nI (lnN k n fl))])), (q1, .inl (T 0, 440, .inl F_5)), (t0, .inr (4, [.ref tv2_1, .int (nI 0), .int ml3_2, .int (nI (lnN k n fl))])), (tv2_1, .inl (T 1, (capL (lvL k0 (lnN k n fl))), .inl fb2_3))] H := hP
  have hD : va_D A [(lo, .inr (2, [.ref ra, .ref d0, .ref b0, .ref t0, .ref r0])), (ra, .inl (T 2, 6, .inr (.inr (.inr (.inr (fun j => some (rd j))))))), ((rd i), .inr (0, [.ref q0, .int (nI n)])), (q0, .inl (T 0, 440, .inl f)), ((rd j), .inr (0, [.ref q1, .int (nI (lnN k n fl))])), (q1, .inl (T 0, 440, .inl F_5)), (t0, .inr (4, [.ref tv2_1, .int (nI 0), .int ml3_2, .int (nI (lnN k n fl))])), (tv2_1, .inl (T 1, (capL (lvL k0 (lnN k n fl))), .inl fb2_3))] := hD
  have hq6 : RB F_5 (lnN k n fl) (wrA k n b) := hq6
  refine W.eq (g2 := F0 m 57 ls []) rfl ?_
  refine lv_aload hx hb dX5_writeText_57 (lv_at hl 1 rfl) ?_
  refine va_getN (D := D) (ci := 0) (v := .int (nI (lnN k n fl))) (C := RX2) (T := TX2) (N := 2) hx hb hts hi_X2 hown hK hP 4 rfl rfl 1 (by decide) (nx0 hG) (fun _ h9 => h9) rfl dX5_writeText_59 ?_
  have hP9 := hP.sub (ws' := [(lo, .inr (2, [.ref ra, .ref d0, .ref b0, .ref t0, .ref r0])), (ra, .inl (T 2, 6, .inr (.inr (.inr (.inr (fun j => some (rd j))))))), ((rd i), .inr (0, [.ref q0, .int (nI n)])), (q0, .inl (T 0, 440, .inl f)), ((rd j), .inr (0, [.ref q1, .int (nI (lnN k n fl))])), (q1, .inl (T 0, 440, .inl F_5)), (t0, .inr (4, [.ref tv2_1, .int (nI 0), .int ml3_2, .int (nI (lnN k n fl))])), (tv2_1, .inl (T 1, (capL (lvL k0 (lnN k n fl))), .inl fb2_3))]) [0, 1, 2, 3, 4, 5, 6, 7] rfl
  have hD9 := hD.sub (ws' := [(lo, .inr (2, [.ref ra, .ref d0, .ref b0, .ref t0, .ref r0])), (ra, .inl (T 2, 6, .inr (.inr (.inr (.inr (fun j => some (rd j))))))), ((rd i), .inr (0, [.ref q0, .int (nI n)])), (q0, .inl (T 0, 440, .inl f)), ((rd j), .inr (0, [.ref q1, .int (nI (lnN k n fl))])), (q1, .inl (T 0, 440, .inl F_5)), (t0, .inr (4, [.ref tv2_1, .int (nI 0), .int ml3_2, .int (nI (lnN k n fl))])), (tv2_1, .inl (T 1, (capL (lvL k0 (lnN k n fl))), .inl fb2_3))]) [0, 1, 2, 3, 4, 5, 6, 7] (by decide) rfl
  exact W.iret (v := (nI (lnN k n fl))) hx hb hr (fun t ht hW => ⟨⟨(tv2_1, ml3_2, fb2_3, F_5), rfl, show RB F_5 (lnN k n fl) (wrA k n b) ∧ sb_Fit fb2_3 from ⟨hq6, hp1.1⟩, (by rw [ht]; exact hP9), va_K.moved hW.alike hK, hD9⟩, hS.F ht⟩) hS.2.2 dX5_writeText_62
set_option maxHeartbeats 4000000 in
set_option maxRecDepth 100000 in
theorem c_writeText_a (l : Launch) (D : va_G) (T : Nat → ClassId) (g : Nat → Nat) (sz : Nat) (lo : Nat) (ra : Nat) (d0 : Nat) (b0 : Nat) (t0 : Nat) (r0 : Nat) (rd : Nat → Nat) (i : Nat) (q0 : Nat) (f : Nat → Int32) (n : Nat) (tv : Nat) (ml : Int32) (cnt : Nat) (k0 : Nat) (fb : Nat → Int32) (htb : sb_Fit fb) (hk0 : k0 ≤ 5 ∧ cnt ≤ 574) (b : Nat → Nat) (hb9 : RB f n b) (k : Nat) (hk : k < 3) (fl : Nat) (hn : n ≤ 320 ∧ fl < 2) (hm : lnN k n fl ≤ 320) (hi : i < 6) : MU l yX5_writeText wsX5_writeText ({ frames := 7, cells := lvL k0 (lnN k n fl) - k0, slots := slL (lvL k0 (lnN k n fl)) - slL k0, locals := 181 } : Room) D T g [.ref lo, .int (nI i), .int (nI i), .int (nI k), .int (nI fl)] [(lo, .inr (2, [.ref ra, .ref d0, .ref b0, .ref t0, .ref r0])), (ra, .inl (T 2, 6, .inr (.inr (.inr (.inr (fun j => some (rd j))))))), (rd i, .inr (0, [.ref q0, .int (nI n)])), (q0, .inl (T 0, 440, .inl f)), (t0, .inr (4, [.ref tv, .int (nI 0), .int ml, .int (nI cnt)])), (tv, .inl (T 1, capL k0, .inl fb))] sz (fun u : Nat × Int32 × (Nat → Int32) × (Nat → Int32) => some (.int (nI (lnN k n fl)))) (fun u : Nat × Int32 × (Nat → Int32) × (Nat → Int32) => RB u.2.2.2 (lnN k n fl) (wrA k n b) ∧ sb_Fit u.2.2.1) (fun u : Nat × Int32 × (Nat → Int32) × (Nat → Int32) => [(lo, .inr (2, [.ref ra, .ref d0, .ref b0, .ref t0, .ref r0])), (ra, .inl (T 2, 6, .inr (.inr (.inr (.inr (fun j => some (rd j))))))), (rd i, .inr (0, [.ref q0, .int (nI (lnN k n fl))])), (q0, .inl (T 0, 440, .inl u.2.2.2)), (t0, .inr (4, [.ref u.1, .int (nI 0), .int u.2.1, .int (nI (lnN k n fl))])), (u.1, .inl (T 1, capL (lvL k0 (lnN k n fl)), .inl u.2.2.1))]) (lvL k0 (lnN k n fl) - k0) (slL (lvL k0 (lnN k n fl)) - slL k0) := by
  refine Met.ofW (cc := cX5_writeText) (maxL := 8) (ret := (some .int)) (by decide) rfl ?_
  intro p e s m args below meth c s₁ B hml hv
  obtain ⟨rfl, hsz, hP, hK, hD0, hG⟩ := hv
  have hx := B.exec
  have hb := B.bytes
  have hr := B.returns
  have hts := atoms_spec (ws := wsX5_writeText) B.pre
  have hown : s.vm.findClass RX5 = some m.cls := findClass_of_methodNamed B.named
  have hlocks := B.notSynchronized
  have hi_X2 : ∀ w ∈ wsX20, w ∈ wsX5_writeText := by decide +kernel
  have hi_X5 : ∀ w ∈ wsX50, w ∈ wsX5_writeText := by decide +kernel
  subst hsz
  have hD := hD0.self (sz := s.heap.size)
  generalize hAe : va_A [(lo, .inr (2, [.ref ra, .ref d0, .ref b0, .ref t0, .ref r0])), (ra, .inl (T 2, 6, .inr (.inr (.inr (.inr (fun j => some (rd j))))))), (rd i, .inr (0, [.ref q0, .int (nI n)])), (q0, .inl (T 0, 440, .inl f)), (t0, .inr (4, [.ref tv, .int (nI 0), .int ml, .int (nI cnt)])), (tv, .inl (T 1, capL k0, .inl fb))] s.heap.size = A at hD hG ⊢
  have hA : ∀ q : Nat, s.heap.size ≤ q → A q := fun q h => by rw [← hAe]; exact Or.inr h
  have hS : va_S A s.heap s.heap [] := va_S.rf
  have hP : va_P D cls [(lo, .inr (2, [.ref ra, .ref d0, .ref b0, .ref t0, .ref r0])), (ra, .inl (T 2, 6, .inr (.inr (.inr (.inr (fun j => some (rd j))))))), (rd i, .inr (0, [.ref q0, .int (nI n)])), (q0, .inl (T 0, 440, .inl f)), (t0, .inr (4, [.ref tv, .int (nI 0), .int ml, .int (nI cnt)])), (tv, .inl (T 1, capL k0, .inl fb))] s.heap := hP
  have hl := lv_entry ([.ref lo, .int (nI i), .int (nI i), .int (nI k), .int (nI fl)]) (n := 8) (Nat.le_of_ble_eq_true rfl)
  rw [lg_entry_eq]
  generalize (lg_sl ([.ref lo, .int (nI i), .int (nI i), .int (nI k), .int (nI fl)]) ++ List.replicate (8 - (lg_sl ([.ref lo, .int (nI i), .int (nI i), .int (nI k), .int (nI fl)])).length) Slot.unset).toArray = ls at hl ⊢
  have hl : lv_has ls 8 [(0, .ref lo), (1, .int (nI i)), (2, .int (nI i)), (3, .int (nI k)), (4, .int (nI fl))] := hl
  have hle := lnN_le (k := k) (fl := fl) hn.1
  refine lv_aload_n hx hb dX5_writeText_0 rfl (lv_at hl 0 rfl) ?_
  refine lv_iload_n hx hb dX5_writeText_1 rfl (lv_at hl 1 rfl) ?_
  refine ro_V (As := [.int (nI i)]) (rest := []) (wc := [(lo, .inr (2, [.ref ra, .ref d0, .ref b0, .ref t0, .ref r0])), (ra, .inl (T 2, 6, .inr (.inr (.inr (.inr (fun j => some (rd j)))))))]) (r := .ref (rd i)) ⟨hx, hb, hml, hown, hts⟩ (c_X5_rowAt l D T g lo ra d0 b0 t0 r0 rd i hi) (cwV 1 hts gX5_writeText_X5_rowAt rfl rfl rfl (by decide +kernel) ⟨Nat.le_of_ble_eq_true rfl, Nat.le_of_ble_eq_true rfl⟩) (va_recv hK hP (ci := 2) (q0 := 0) rfl rfl) hP hK hG hS [0, 1] rfl ⟨Nat.zero_le _, Nat.zero_le _⟩ rfl hl.1 (Nat.le_of_ble_eq_true rfl) dX5_writeText_2 rfl ?_
  refine lv_astore (lv' := [(5, .ref (rd i)), (0, .ref lo), (1, .int (nI i)), (2, .int (nI i)), (3, .int (nI k)), (4, .int (nI fl))]) hx hb dX5_writeText_5 hl (by decide) rfl (fun ls hl => ?_)
  refine lv_aload_n hx hb dX5_writeText_7 rfl (lv_at hl 1 rfl) ?_
  refine lv_iload_n hx hb dX5_writeText_8 rfl (lv_at hl 3 rfl) ?_
  refine ro_V (As := [.int (nI i)]) (rest := []) (wc := [(lo, .inr (2, [.ref ra, .ref d0, .ref b0, .ref t0, .ref r0])), (ra, .inl (T 2, 6, .inr (.inr (.inr (.inr (fun j => some (rd j)))))))]) (r := .ref (rd i)) ⟨hx, hb, hml, hown, hts⟩ (c_X5_rowAt l D T g lo ra d0 b0 t0 r0 rd i hi) (cwV 1 hts gX5_writeText_X5_rowAt rfl rfl rfl (by decide +kernel) ⟨Nat.le_of_ble_eq_true rfl, Nat.le_of_ble_eq_true rfl⟩) (va_recv hK hP (ci := 2) (q0 := 0) rfl rfl) hP hK hG hS [0, 1] rfl ⟨Nat.zero_le _, Nat.zero_le _⟩ rfl hl.1 (Nat.le_of_ble_eq_true rfl) dX5_writeText_9 rfl ?_
  refine lv_astore (lv' := [(6, .ref (rd i)), (5, .ref (rd i)), (0, .ref lo), (1, .int (nI i)), (2, .int (nI i)), (3, .int (nI k)), (4, .int (nI fl))]) hx hb dX5_writeText_12 hl (by decide) rfl (fun ls hl => ?_)
  refine lv_iload_n hx hb dX5_writeText_14 rfl (lv_at hl 5 rfl) ?_
  refine ro_S (As := [.int (nI k)]) (rest := []) (wc := []) (r := .ref (g k)) ⟨hx, hb, hml, hown, hts⟩ (c_X5_kindAt l D T g k hk) (va_cwS 1 hts gX5_writeText_X5_kindAt rfl rfl rfl (by decide +kernel) ⟨Nat.le_of_ble_eq_true rfl, Nat.le_of_ble_eq_true rfl⟩) hP hK hG hS [] rfl ⟨Nat.zero_le _, Nat.zero_le _⟩ rfl hl.1 (Nat.le_of_ble_eq_true rfl) dX5_writeText_15 rfl ?_
  refine lv_astore (lv' := [(7, .ref (g k)), (6, .ref (rd i)), (5, .ref (rd i)), (0, .ref lo), (1, .int (nI i)), (2, .int (nI i)), (3, .int (nI k)), (4, .int (nI fl))]) hx hb dX5_writeText_18 hl (by decide) rfl (fun ls hl => ?_)
  refine lv_aload hx hb dX5_writeText_20 (lv_at hl 2 rfl) ?_
  refine va_getN (D := D) (ci := 0) (v := .int (nI n)) (C := RX2) (T := TX2) (N := 2) hx hb hts hi_X2 hown hK hP 2 rfl rfl 1 (by decide) (nx0 hG) (fun _ h9 => h9) rfl dX5_writeText_22 ?_
  refine lv_aload hx hb dX5_writeText_25 (lv_at hl 0 rfl) ?_
  refine lv_iload hx hb dX5_writeText_27 (lv_at hl 7 rfl) ?_
  refine ro_S (As := [.int (nI n), .ref (g k), .int (nI fl)]) (rest := []) (wc := []) (r := .int (nI (lnN k n fl))) ⟨hx, hb, hml, hown, hts⟩ (c_X4_lengthOf l D T g n k fl hk hn) (va_cwS 3 hts gX5_writeText_X4_lengthOf rfl rfl rfl (by decide +kernel) ⟨Nat.le_of_ble_eq_true rfl, Nat.le_of_ble_eq_true rfl⟩) hP hK hG hS [] rfl ⟨Nat.zero_le _, Nat.zero_le _⟩ rfl hl.1 (Nat.le_of_ble_eq_true rfl) dX5_writeText_29 rfl ?_
  refine rv_S (As := [.int (nI (lnN k n fl))]) (rest := []) (wc := []) ⟨hx, hb, hml, hown, hts⟩ (c_X5_checkRoom l D T g (lnN k n fl) (by omega)) (va_cwS 1 hts gX5_writeText_X5_checkRoom rfl rfl rfl (by decide +kernel) ⟨Nat.le_of_ble_eq_true rfl, Nat.le_of_ble_eq_true rfl⟩) hP hK hG hS [] rfl ⟨Nat.zero_le _, Nat.zero_le _⟩ rfl hl.1 (Nat.le_of_ble_eq_true rfl) dX5_writeText_32 rfl ?_
  refine lv_aload hx hb dX5_writeText_35 (lv_at hl 2 rfl) ?_
  refine lv_aload hx hb dX5_writeText_37 (lv_at hl 0 rfl) ?_
  refine lv_iload hx hb dX5_writeText_39 (lv_at hl 7 rfl) ?_
  refine lv_aload_n hx hb dX5_writeText_41 rfl (lv_at hl 3 rfl) ?_
  refine va_get (D := D) (ci := 2) (v := .ref t0) (C := RX5) (T := TX5) (N := 5) hx hb hts hi_X5 hown hK hP 0 rfl rfl 3 (by decide) (hts _ (List.mem_of_getElem? (i := 1) rfl)) (fun _ h9 => h9) rfl dX5_writeText_42 ?_
  refine mu_S (As := [.ref (rd i), .ref (g k), .int (nI fl), .ref t0]) (rest := []) (wc := [(rd i, .inr (0, [.ref q0, .int (nI n)])), (q0, .inl (T 0, 440, .inl f)), (t0, .inr (4, [.ref tv, .int (nI 0), .int ml, .int (nI cnt)])), (tv, .inl (T 1, capL k0, .inl fb))]) (wr := [(lo, .inr (2, [.ref ra, .ref d0, .ref b0, .ref t0, .ref r0])), (ra, .inl (T 2, 6, .inr (.inr (.inr (.inr (fun j => some (rd j)))))))]) ⟨hx, hb, hml, hown, hts⟩ (c_X4_writeSigns l D T g s.heap.size (rd i) q0 f n k fl t0 tv ml cnt k0 fb b (hb9) (htb) hk (hk0.1) (⟨hn.1, hn.2, hk0.2⟩)) (va_cwS 4 hts gX5_writeText_X4_writeSigns rfl rfl rfl (by decide +kernel) ⟨Nat.le_of_ble_eq_true rfl, Nat.le_of_ble_eq_true rfl⟩) hP hD hK hG hS hA [2, 3, 4, 5] [0, 1] rfl (by decide) rfl (by decide) (by decide) ⟨Nat.le_of_eq (Nat.zero_add _), Nat.le_of_eq (Nat.zero_add _)⟩ rfl hl.1 (Nat.le_of_ble_eq_true rfl) dX5_writeText_45 rfl (fun u H locs hq4 hP hD hS => ?_)
  obtain ⟨tv2_1, ml3_2, fb2_3⟩ := u
  refine W.widen (k := lvL k0 (lnN k n fl) - k0) (n := slL (lvL k0 (lnN k n fl)) - slL k0) (Nat.le_of_eq (Nat.zero_add _)) (Nat.le_of_eq (Nat.zero_add _)) ?_
  have hP : va_P D cls [(lo, .inr (2, [.ref ra, .ref d0, .ref b0, .ref t0, .ref r0])), (ra, .inl (T 2, 6, .inr (.inr (.inr (.inr (fun j => some (rd j))))))), ((rd i), .inr (0, [.ref q0, .int (nI n)])), (q0, .inl (T 0, 440, .inl f)), (t0, .inr (4, [.ref tv2_1, .int (nI 0), .int ml3_2, .int (nI (lnN k n fl))])), (tv2_1, .inl (T 1, capL (lvL k0 (lnN k n fl)), .inl fb2_3))] H := hP
  have hD : va_D A [(lo, .inr (2, [.ref ra, .ref d0, .ref b0, .ref t0, .ref r0])), (ra, .inl (T 2, 6, .inr (.inr (.inr (.inr (fun j => some (rd j))))))), ((rd i), .inr (0, [.ref q0, .int (nI n)])), (q0, .inl (T 0, 440, .inl f)), (t0, .inr (4, [.ref tv2_1, .int (nI 0), .int ml3_2, .int (nI (lnN k n fl))])), (tv2_1, .inl (T 1, capL (lvL k0 (lnN k n fl)), .inl fb2_3))] := hD
  have hp1 : TB fb2_3 (capL (lvL k0 (lnN k n fl))) (lnN k n fl) (wrA k n b) := hq4
  refine W.eq (g2 := F0 m 48 ls []) rfl ?_
  refine lv_aload hx hb dX5_writeText_48 (lv_at hl 1 rfl) ?_
  refine lv_aload_n hx hb dX5_writeText_50 rfl (lv_at hl 3 rfl) ?_
  refine va_get (D := D) (ci := 2) (v := .ref t0) (C := RX5) (T := TX5) (N := 5) hx hb hts hi_X5 hown hK hP 0 rfl rfl 3 (by decide) (hts _ (List.mem_of_getElem? (i := 1) rfl)) (fun _ h9 => h9) rfl dX5_writeText_51 ?_
  refine mu_V (As := [.ref t0]) (rest := []) (wc := [((rd i), .inr (0, [.ref q0, .int (nI n)])), (q0, .inl (T 0, 440, .inl f)), (t0, .inr (4, [.ref tv2_1, .int (nI 0), .int ml3_2, .int (nI (lnN k n fl))])), (tv2_1, .inl (T 1, capL (lvL k0 (lnN k n fl)), .inl fb2_3))]) (wr := [(lo, .inr (2, [.ref ra, .ref d0, .ref b0, .ref t0, .ref r0])), (ra, .inl (T 2, 6, .inr (.inr (.inr (.inr (fun j => some (rd j)))))))]) ⟨hx, hb, hml, hown, hts⟩ (c_X2_becomeCodes l D T g H.size (rd i) q0 f n t0 tv2_1 ml3_2 (lnN k n fl) (capL (lvL k0 (lnN k n fl))) fb2_3 (wrA k n b) (hp1) (by omega)) (cwV 1 hts gX5_writeText_X2_becomeCodes rfl rfl rfl (by decide +kernel) ⟨Nat.le_of_ble_eq_true rfl, Nat.le_of_ble_eq_true rfl⟩) (va_recv hK hP (ci := 0) (q0 := 2) rfl rfl) hP hD hK hG hS hA [2, 3, 4, 5] [0, 1] rfl (by decide) rfl (by decide) (by decide) ⟨Nat.le_refl _, Nat.le_refl _⟩ rfl hl.1 (Nat.le_of_ble_eq_true rfl) dX5_writeText_54 rfl (fun u H locs hq6 hP hD hS => ?_)
  obtain ⟨F_5, hu9⟩ : ∃ z, z = u := ⟨_, rfl⟩
  subst hu9
  have hP : va_P D cls [(lo, .inr (2, [.ref ra, .ref d0, .ref b0, .ref t0, .ref r0])), (ra, .inl (T 2, 6, .inr (.inr (.inr (.inr (fun j => some (rd j))))))), ((rd i), .inr (0, [.ref q0, .int (nI (lnN k n fl))])), (q0, .inl (T 0, 440, .inl F_5)), (t0, .inr (4, [.ref tv2_1, .int (nI 0), .int ml3_2, .int (nI (lnN k n fl))])), (tv2_1, .inl (T 1, (capL (lvL k0 (lnN k n fl))), .inl fb2_3))] H := hP
  have hD : va_D A [(lo, .inr (2, [.ref ra, .ref d0, .ref b0, .ref t0, .ref r0])), (ra, .inl (T 2, 6, .inr (.inr (.inr (.inr (fun j => some (rd j))))))), ((rd i), .inr (0, [.ref q0, .int (nI (lnN k n fl))])), (q0, .inl (T 0, 440, .inl F_5)), (t0, .inr (4, [.ref tv2_1, .int (nI 0), .int ml3_2, .int (nI (lnN k n fl))])), (tv2_1, .inl (T 1, (capL (lvL k0 (lnN k n fl))), .inl fb2_3))] := hD
  have hq6 : RB F_5 (lnN k n fl) (wrA k n b) := hq6
  refine W.eq (g2 := F0 m 57 ls []) rfl ?_
  refine lv_aload hx hb dX5_writeText_57 (lv_at hl 1 rfl) ?_
  refine va_getN (D := D) (ci := 0) (v := .int (nI (lnN k n fl))) (C := RX2) (T := TX2) (N := 2) hx hb hts hi_X2 hown hK hP 2 rfl rfl 1 (by decide) (nx0 hG) (fun _ h9 => h9) rfl dX5_writeText_59 ?_
  have hP9 := hP.sub (ws' := [(lo, .inr (2, [.ref ra, .ref d0, .ref b0, .ref t0, .ref r0])), (ra, .inl (T 2, 6, .inr (.inr (.inr (.inr (fun j => some (rd j))))))), ((rd i), .inr (0, [.ref q0, .int (nI (lnN k n fl))])), (q0, .inl (T 0, 440, .inl F_5)), (t0, .inr (4, [.ref tv2_1, .int (nI 0), .int ml3_2, .int (nI (lnN k n fl))])), (tv2_1, .inl (T 1, (capL (lvL k0 (lnN k n fl))), .inl fb2_3))]) [0, 1, 2, 3, 4, 5] rfl
  have hD9 := hD.sub (ws' := [(lo, .inr (2, [.ref ra, .ref d0, .ref b0, .ref t0, .ref r0])), (ra, .inl (T 2, 6, .inr (.inr (.inr (.inr (fun j => some (rd j))))))), ((rd i), .inr (0, [.ref q0, .int (nI (lnN k n fl))])), (q0, .inl (T 0, 440, .inl F_5)), (t0, .inr (4, [.ref tv2_1, .int (nI 0), .int ml3_2, .int (nI (lnN k n fl))])), (tv2_1, .inl (T 1, (capL (lvL k0 (lnN k n fl))), .inl fb2_3))]) [0, 1, 2, 3, 4, 5] (by decide) rfl
  exact W.iret (v := (nI (lnN k n fl))) hx hb hr (fun t ht hW => ⟨⟨(tv2_1, ml3_2, fb2_3, F_5), rfl, show RB F_5 (lnN k n fl) (wrA k n b) ∧ sb_Fit fb2_3 from ⟨hq6, hp1.1⟩, (by rw [ht]; exact hP9), va_K.moved hW.alike hK, hD9⟩, hS.F ht⟩) hS.2.2 dX5_writeText_62
