theorem zr_bI (b : Bool) : narrow .boolean (.int (bI b)) = .int (bI b) := by cases b <;> rfl
set_option maxHeartbeats 4000000 in
set_option maxRecDepth 100000 in
/-- add: no such row -/
theorem c_add_x1 (l : Launch) (D : va_G) (T : Nat → ClassId) (g : Nat → Nat) (sz : Nat) (hl9 : l.stackTraces = false) (lo : Nat) (ra : Nat) (d0 : Nat) (b0 : Nat) (t0 : Nat) (r0 : Nat) (rd : Nat → Nat) (i : Int32) (hi : i < 0 ∨ ¬ i < nI 6) (x0 : Int32) : TX l yX5_add wsX5_add ({ frames := 7, cells := 1, slots := 6, locals := 111 } : Room) D T g [.ref lo, .int i, .int x0] [(lo, .inr (2, [.ref ra, .ref d0, .ref b0, .ref t0, .ref r0])), (ra, .inl (T 2, 6, .inr (.inr (.inr (.inr (fun j => some (rd j)))))))] sz "java/lang/IndexOutOfBoundsException" (fun u : Unit => True) (fun u : Unit => [(lo, .inr (2, [.ref ra, .ref d0, .ref b0, .ref t0, .ref r0])), (ra, .inl (T 2, 6, .inr (.inr (.inr (.inr (fun j => some (rd j)))))))]) 1 6 := by
  refine vx_ofW (cc := cX5_add) (maxL := 4) (ret := (some .int)) (by decide) rfl ?_
  intro p e s m args below meth c s₁ B hml ht hv
  obtain ⟨rfl, hsz, hP, hK, hD0, hG⟩ := hv
  have hx := B.exec
  have hb := B.bytes
  have hr := B.returns
  have hts := atoms_spec (ws := wsX5_add) B.pre
  have hown : s.vm.findClass RX5 = some m.cls := findClass_of_methodNamed B.named
  have hlocks := B.notSynchronized
  subst hsz
  have hD := hD0.self (sz := s.heap.size)
  generalize hAe : va_A [(lo, .inr (2, [.ref ra, .ref d0, .ref b0, .ref t0, .ref r0])), (ra, .inl (T 2, 6, .inr (.inr (.inr (.inr (fun j => some (rd j)))))))] s.heap.size = A at hD hG ⊢
  have hA : ∀ q : Nat, s.heap.size ≤ q → A q := fun q h => by rw [← hAe]; exact Or.inr h
  have hS : va_S A s.heap s.heap [] := va_S.rf
  have hP : va_P D cls [(lo, .inr (2, [.ref ra, .ref d0, .ref b0, .ref t0, .ref r0])), (ra, .inl (T 2, 6, .inr (.inr (.inr (.inr (fun j => some (rd j)))))))] s.heap := hP
  have hl := lv_entry ([.ref lo, .int i, .int x0]) (n := 4) (Nat.le_of_ble_eq_true rfl)
  rw [lg_entry_eq]
  generalize (lg_sl ([.ref lo, .int i, .int x0]) ++ List.replicate (4 - (lg_sl ([.ref lo, .int i, .int x0])).length) Slot.unset).toArray = ls at hl ⊢
  have hl : lv_has ls 4 [(0, .ref lo), (1, .int i), (2, .int x0)] := hl
  refine lv_aload_n hx hb dX5_add_0 rfl (lv_at hl 0 rfl) ?_
  refine lv_iload_n hx hb dX5_add_1 rfl (lv_at hl 1 rfl) ?_
  refine tx_V (As := [.int i]) (rest := []) (wc := [(lo, .inr (2, [.ref ra, .ref d0, .ref b0, .ref t0, .ref r0])), (ra, .inl (T 2, 6, .inr (.inr (.inr (.inr (fun j => some (rd j)))))))]) (wr := []) ⟨hx, hb, hml, hown, hts⟩ (c_X5_rowAt_x l D T g s.heap.size hl9 lo ra d0 b0 t0 r0 rd i hi) (cwV 1 hts gX5_add_X5_rowAt rfl rfl rfl (by decide +kernel) ⟨Nat.le_of_ble_eq_true rfl, Nat.le_of_ble_eq_true rfl⟩) (va_recv hK hP (ci := 2) (q0 := 0) rfl rfl) hP hD hK hG hS hA [0, 1] [] rfl (by decide) rfl (by decide) (by decide) ⟨Nat.le_of_ble_eq_true rfl, Nat.le_of_ble_eq_true rfl⟩ rfl hl.1 (Nat.le_of_ble_eq_true rfl) dX5_add_2 rfl ht hlocks (fun u t hal hq1 hP hD hFF => ?_) (Nat.le_of_ble_eq_true rfl) (Nat.le_of_ble_eq_true rfl)
  have hP : va_P D cls [(lo, .inr (2, [.ref ra, .ref d0, .ref b0, .ref t0, .ref r0])), (ra, .inl (T 2, 6, .inr (.inr (.inr (.inr (fun j => some (rd j)))))))] t.heap := hP
  have hD : va_D A [(lo, .inr (2, [.ref ra, .ref d0, .ref b0, .ref t0, .ref r0])), (ra, .inl (T 2, 6, .inr (.inr (.inr (.inr (fun j => some (rd j)))))))] := hD
  exact ⟨rfl, ⟨(), trivial, hP.sub (ws' := [(lo, .inr (2, [.ref ra, .ref d0, .ref b0, .ref t0, .ref r0])), (ra, .inl (T 2, 6, .inr (.inr (.inr (.inr (fun j => some (rd j)))))))]) [0, 1] rfl, va_K.moved hal hK, hD.sub (ws' := [(lo, .inr (2, [.ref ra, .ref d0, .ref b0, .ref t0, .ref r0])), (ra, .inl (T 2, 6, .inr (.inr (.inr (.inr (fun j => some (rd j)))))))]) [0, 1] (by decide) rfl⟩, hFF⟩
set_option maxHeartbeats 4000000 in
set_option maxRecDepth 100000 in
/-- add -/
theorem c_add (l : Launch) (D : va_G) (T : Nat → ClassId) (g : Nat → Nat) (sz : Nat) (lo : Nat) (ra : Nat) (d0 : Nat) (b0 : Nat) (t0 : Nat) (r0 : Nat) (rd : Nat → Nat) (i : Nat) (q0 : Nat) (f : Nat → Int32) (n : Nat) (b : Nat → Nat) (hb9 : RB f n b) (v : Nat) (hi : i < 6) (hv9 : v < 256) (hn : n < 320) : MU l yX5_add wsX5_add ({ frames := 1, cells := 0, slots := 0, locals := 21 } : Room) D T g [.ref lo, .int (nI i), .int (nI v)] [(lo, .inr (2, [.ref ra, .ref d0, .ref b0, .ref t0, .ref r0])), (ra, .inl (T 2, 6, .inr (.inr (.inr (.inr (fun j => some (rd j))))))), (rd i, .inr (0, [.ref q0, .int (nI n)])), (q0, .inl (T 0, 440, .inl f))] sz (fun u : Unit => some (.int (nI (n + 1)))) (fun u : Unit => True) (fun u : Unit => [(lo, .inr (2, [.ref ra, .ref d0, .ref b0, .ref t0, .ref r0])), (ra, .inl (T 2, 6, .inr (.inr (.inr (.inr (fun j => some (rd j))))))), (rd i, .inr (0, [.ref q0, .int (nI (n + 1))])), (q0, .inl (T 0, 440, .inl (upd f n (nI v))))]) 0 0 := by
  refine Met.ofW (cc := cX5_add) (maxL := 4) (ret := (some .int)) (by decide) rfl ?_
  intro p e s m args below meth c s₁ B hml hv
  obtain ⟨rfl, hsz, hP, hK, hD0, hG⟩ := hv
  have hx := B.exec
  have hb := B.bytes
  have hr := B.returns
  have hts := atoms_spec (ws := wsX5_add) B.pre
  have hown : s.vm.findClass RX5 = some m.cls := findClass_of_methodNamed B.named
  have hlocks := B.notSynchronized
  have hi_X2 : ∀ w ∈ wsX20, w ∈ wsX5_add := by decide +kernel
  subst hsz
  have hD := hD0.self (sz := s.heap.size)
  generalize hAe : va_A [(lo, .inr (2, [.ref ra, .ref d0, .ref b0, .ref t0, .ref r0])), (ra, .inl (T 2, 6, .inr (.inr (.inr (.inr (fun j => some (rd j))))))), (rd i, .inr (0, [.ref q0, .int (nI n)])), (q0, .inl (T 0, 440, .inl f))] s.heap.size = A at hD hG ⊢
  have hA : ∀ q : Nat, s.heap.size ≤ q → A q := fun q h => by rw [← hAe]; exact Or.inr h
  have hS : va_S A s.heap s.heap [] := va_S.rf
  have hP : va_P D cls [(lo, .inr (2, [.ref ra, .ref d0, .ref b0, .ref t0, .ref r0])), (ra, .inl (T 2, 6, .inr (.inr (.inr (.inr (fun j => some (rd j))))))), (rd i, .inr (0, [.ref q0, .int (nI n)])), (q0, .inl (T 0, 440, .inl f))] s.heap := hP
  have hl := lv_entry ([.ref lo, .int (nI i), .int (nI v)]) (n := 4) (Nat.le_of_ble_eq_true rfl)
  rw [lg_entry_eq]
  generalize (lg_sl ([.ref lo, .int (nI i), .int (nI v)]) ++ List.replicate (4 - (lg_sl ([.ref lo, .int (nI i), .int (nI v)])).length) Slot.unset).toArray = ls at hl ⊢
  have hl : lv_has ls 4 [(0, .ref lo), (1, .int (nI i)), (2, .int (nI v))] := hl
  refine lv_aload_n hx hb dX5_add_0 rfl (lv_at hl 0 rfl) ?_
  refine lv_iload_n hx hb dX5_add_1 rfl (lv_at hl 1 rfl) ?_
  refine ro_V (As := [.int (nI i)]) (rest := []) (wc := [(lo, .inr (2, [.ref ra, .ref d0, .ref b0, .ref t0, .ref r0])), (ra, .inl (T 2, 6, .inr (.inr (.inr (.inr (fun j => some (rd j)))))))]) (r := .ref (rd i)) ⟨hx, hb, hml, hown, hts⟩ (c_X5_rowAt l D T g lo ra d0 b0 t0 r0 rd i hi) (cwV 1 hts gX5_add_X5_rowAt rfl rfl rfl (by decide +kernel) ⟨Nat.le_of_ble_eq_true rfl, Nat.le_of_ble_eq_true rfl⟩) (va_recv hK hP (ci := 2) (q0 := 0) rfl rfl) hP hK hG hS [0, 1] rfl ⟨Nat.zero_le _, Nat.zero_le _⟩ rfl hl.1 (Nat.le_of_ble_eq_true rfl) dX5_add_2 rfl ?_
  refine lv_astore_n (lv' := [(3, .ref (rd i)), (0, .ref lo), (1, .int (nI i)), (2, .int (nI v))]) hx hb dX5_add_5 rfl hl (by decide) rfl (fun ls hl => ?_)
  refine lv_iload_n hx hb dX5_add_6 rfl (lv_at hl 3 rfl) ?_
  refine rv_S (As := [.int (nI v)]) (rest := []) (wc := []) ⟨hx, hb, hml, hown, hts⟩ (c_X5_checkByte l D T g v hv9) (va_cwS 1 hts gX5_add_X5_checkByte rfl rfl rfl (by decide +kernel) ⟨Nat.le_of_ble_eq_true rfl, Nat.le_of_ble_eq_true rfl⟩) hP hK hG hS [] rfl ⟨Nat.zero_le _, Nat.zero_le _⟩ rfl hl.1 (Nat.le_of_ble_eq_true rfl) dX5_add_7 rfl ?_
  refine lv_aload_n hx hb dX5_add_10 rfl (lv_at hl 0 rfl) ?_
  refine va_getN (D := D) (ci := 0) (v := .int (nI n)) (C := RX2) (T := TX2) (N := 2) hx hb hts hi_X2 hown hK hP 2 rfl rfl 1 (by decide) (nx0 hG) (fun _ h9 => h9) rfl dX5_add_11 ?_
  refine lv_iconst (v := (nI 1)) hx hb dX5_add_14 (by decide +kernel) ?_
  refine ln_add hx hb dX5_add_15 ?_
  refine rv_S (As := [.int (nI (n + 1))]) (rest := []) (wc := []) ⟨hx, hb, hml, hown, hts⟩ (c_X5_checkRoom l D T g (n + 1) (by omega)) (va_cwS 1 hts gX5_add_X5_checkRoom rfl rfl rfl (by decide +kernel) ⟨Nat.le_of_ble_eq_true rfl, Nat.le_of_ble_eq_true rfl⟩) hP hK hG hS [] rfl ⟨Nat.zero_le _, Nat.zero_le _⟩ rfl hl.1 (Nat.le_of_ble_eq_true rfl) dX5_add_16 rfl ?_
  refine lv_aload_n hx hb dX5_add_19 rfl (lv_at hl 0 rfl) ?_
  refine lv_iload_n hx hb dX5_add_20 rfl (lv_at hl 3 rfl) ?_
  refine mu_V (As := [.int (nI v)]) (rest := []) (wc := [(rd i, .inr (0, [.ref q0, .int (nI n)])), (q0, .inl (T 0, 440, .inl f))]) (wr := [(lo, .inr (2, [.ref ra, .ref d0, .ref b0, .ref t0, .ref r0])), (ra, .inl (T 2, 6, .inr (.inr (.inr (.inr (fun j => some (rd j)))))))]) ⟨hx, hb, hml, hown, hts⟩ (c_X2_append l D T g s.heap.size (rd i) q0 f n (nI v) (by omega)) (cwV 1 hts gX5_add_X2_append rfl rfl rfl (by decide +kernel) ⟨Nat.le_of_ble_eq_true rfl, Nat.le_of_ble_eq_true rfl⟩) (va_recv hK hP (ci := 0) (q0 := 2) rfl rfl) hP hD hK hG hS hA [2, 3] [0, 1] rfl (by decide) rfl (by decide) (by decide) ⟨Nat.le_of_ble_eq_true rfl, Nat.le_of_ble_eq_true rfl⟩ rfl hl.1 (Nat.le_of_ble_eq_true rfl) dX5_add_21 rfl (fun u H locs hq1 hP hD hS => ?_)
  have hP : va_P D cls [(lo, .inr (2, [.ref ra, .ref d0, .ref b0, .ref t0, .ref r0])), (ra, .inl (T 2, 6, .inr (.inr (.inr (.inr (fun j => some (rd j))))))), ((rd i), .inr (0, [.ref q0, .int (nI (n + 1))])), (q0, .inl (T 0, 440, .inl (upd f n (nI v))))] H := hP
  have hD : va_D A [(lo, .inr (2, [.ref ra, .ref d0, .ref b0, .ref t0, .ref r0])), (ra, .inl (T 2, 6, .inr (.inr (.inr (.inr (fun j => some (rd j))))))), ((rd i), .inr (0, [.ref q0, .int (nI (n + 1))])), (q0, .inl (T 0, 440, .inl (upd f n (nI v))))] := hD
  refine W.eq (g2 := F0 m 24 ls []) rfl ?_
  refine lv_aload_n hx hb dX5_add_24 rfl (lv_at hl 0 rfl) ?_
  refine va_getN (D := D) (ci := 0) (v := .int (nI (n + 1))) (C := RX2) (T := TX2) (N := 2) hx hb hts hi_X2 hown hK hP 2 rfl rfl 1 (by decide) (nx0 hG) (fun _ h9 => h9) rfl dX5_add_25 ?_
  have hP9 := hP.sub (ws' := [(lo, .inr (2, [.ref ra, .ref d0, .ref b0, .ref t0, .ref r0])), (ra, .inl (T 2, 6, .inr (.inr (.inr (.inr (fun j => some (rd j))))))), ((rd i), .inr (0, [.ref q0, .int (nI (n + 1))])), (q0, .inl (T 0, 440, .inl (upd f n (nI v))))]) [0, 1, 2, 3] rfl
  have hD9 := hD.sub (ws' := [(lo, .inr (2, [.ref ra, .ref d0, .ref b0, .ref t0, .ref r0])), (ra, .inl (T 2, 6, .inr (.inr (.inr (.inr (fun j => some (rd j))))))), ((rd i), .inr (0, [.ref q0, .int (nI (n + 1))])), (q0, .inl (T 0, 440, .inl (upd f n (nI v))))]) [0, 1, 2, 3] (by decide) rfl
  exact W.iret (v := (nI (n + 1))) hx hb hr (fun t ht hW => ⟨⟨(), rfl, trivial, (by rw [ht]; exact hP9), va_K.moved hW.alike hK, hD9⟩, hS.F ht⟩) hS.2.2 dX5_add_28
set_option maxHeartbeats 4000000 in
set_option maxRecDepth 100000 in
theorem c_add_x2 (l : Launch) (D : va_G) (T : Nat → ClassId) (g : Nat → Nat) (sz : Nat) (hl9 : l.stackTraces = false) (lo : Nat) (ra : Nat) (d0 : Nat) (b0 : Nat) (t0 : Nat) (r0 : Nat) (rd : Nat → Nat) (i : Nat) (q0 : Nat) (f : Nat → Int32) (n : Nat) (hi : i < 6) (v : Int32) (hv9 : v < 0 ∨ ¬ v ≤ nI 255) : TX l yX5_add wsX5_add ({ frames := 7, cells := 1, slots := 6, locals := 110 } : Room) D T g [.ref lo, .int (nI i), .int v] [(lo, .inr (2, [.ref ra, .ref d0, .ref b0, .ref t0, .ref r0])), (ra, .inl (T 2, 6, .inr (.inr (.inr (.inr (fun j => some (rd j))))))), (rd i, .inr (0, [.ref q0, .int (nI n)])), (q0, .inl (T 0, 440, .inl f))] sz "java/lang/IllegalArgumentException" (fun u : Unit => True) (fun u : Unit => [(lo, .inr (2, [.ref ra, .ref d0, .ref b0, .ref t0, .ref r0])), (ra, .inl (T 2, 6, .inr (.inr (.inr (.inr (fun j => some (rd j))))))), (rd i, .inr (0, [.ref q0, .int (nI n)])), (q0, .inl (T 0, 440, .inl f))]) 1 6 := by
  refine vx_ofW (cc := cX5_add) (maxL := 4) (ret := (some .int)) (by decide) rfl ?_
  intro p e s m args below meth c s₁ B hml ht hv
  obtain ⟨rfl, hsz, hP, hK, hD0, hG⟩ := hv
  have hx := B.exec
  have hb := B.bytes
  have hr := B.returns
  have hts := atoms_spec (ws := wsX5_add) B.pre
  have hown : s.vm.findClass RX5 = some m.cls := findClass_of_methodNamed B.named
  have hlocks := B.notSynchronized
  subst hsz
  have hD := hD0.self (sz := s.heap.size)
  generalize hAe : va_A [(lo, .inr (2, [.ref ra, .ref d0, .ref b0, .ref t0, .ref r0])), (ra, .inl (T 2, 6, .inr (.inr (.inr (.inr (fun j => some (rd j))))))), (rd i, .inr (0, [.ref q0, .int (nI n)])), (q0, .inl (T 0, 440, .inl f))] s.heap.size = A at hD hG ⊢
  have hA : ∀ q : Nat, s.heap.size ≤ q → A q := fun q h => by rw [← hAe]; exact Or.inr h
  have hS : va_S A s.heap s.heap [] := va_S.rf
  have hP : va_P D cls [(lo, .inr (2, [.ref ra, .ref d0, .ref b0, .ref t0, .ref r0])), (ra, .inl (T 2, 6, .inr (.inr (.inr (.inr (fun j => some (rd j))))))), (rd i, .inr (0, [.ref q0, .int (nI n)])), (q0, .inl (T 0, 440, .inl f))] s.heap := hP
  have hl := lv_entry ([.ref lo, .int (nI i), .int v]) (n := 4) (Nat.le_of_ble_eq_true rfl)
  rw [lg_entry_eq]
  generalize (lg_sl ([.ref lo, .int (nI i), .int v]) ++ List.replicate (4 - (lg_sl ([.ref lo, .int (nI i), .int v])).length) Slot.unset).toArray = ls at hl ⊢
  have hl : lv_has ls 4 [(0, .ref lo), (1, .int (nI i)), (2, .int v)] := hl
  refine lv_aload_n hx hb dX5_add_0 rfl (lv_at hl 0 rfl) ?_
  refine lv_iload_n hx hb dX5_add_1 rfl (lv_at hl 1 rfl) ?_
  refine ro_V (As := [.int (nI i)]) (rest := []) (wc := [(lo, .inr (2, [.ref ra, .ref d0, .ref b0, .ref t0, .ref r0])), (ra, .inl (T 2, 6, .inr (.inr (.inr (.inr (fun j => some (rd j)))))))]) (r := .ref (rd i)) ⟨hx, hb, hml, hown, hts⟩ (c_X5_rowAt l D T g lo ra d0 b0 t0 r0 rd i hi) (cwV 1 hts gX5_add_X5_rowAt rfl rfl rfl (by decide +kernel) ⟨Nat.le_of_ble_eq_true rfl, Nat.le_of_ble_eq_true rfl⟩) (va_recv hK hP (ci := 2) (q0 := 0) rfl rfl) hP hK hG hS [0, 1] rfl ⟨Nat.zero_le _, Nat.zero_le _⟩ rfl hl.1 (Nat.le_of_ble_eq_true rfl) dX5_add_2 rfl ?_
  refine lv_astore_n (lv' := [(3, .ref (rd i)), (0, .ref lo), (1, .int (nI i)), (2, .int v)]) hx hb dX5_add_5 rfl hl (by decide) rfl (fun ls hl => ?_)
  refine lv_iload_n hx hb dX5_add_6 rfl (lv_at hl 3 rfl) ?_
  refine tx_S (As := [.int v]) (rest := []) (wc := []) (wr := [(lo, .inr (2, [.ref ra, .ref d0, .ref b0, .ref t0, .ref r0])), (ra, .inl (T 2, 6, .inr (.inr (.inr (.inr (fun j => some (rd j))))))), (rd i, .inr (0, [.ref q0, .int (nI n)])), (q0, .inl (T 0, 440, .inl f))]) ⟨hx, hb, hml, hown, hts⟩ (c_X5_checkByte_x l D T g s.heap.size hl9 v hv9) (va_cwS 1 hts gX5_add_X5_checkByte rfl rfl rfl (by decide +kernel) ⟨Nat.le_of_ble_eq_true rfl, Nat.le_of_ble_eq_true rfl⟩) hP hD hK hG hS hA [] [0, 1, 2, 3] rfl (by decide) rfl (by decide) (by decide) ⟨Nat.le_of_ble_eq_true rfl, Nat.le_of_ble_eq_true rfl⟩ rfl hl.1 (Nat.le_of_ble_eq_true rfl) dX5_add_7 rfl ht hlocks (fun u t hal hq1 hP hD hFF => ?_) (Nat.le_of_ble_eq_true rfl) (Nat.le_of_ble_eq_true rfl)
  have hP : va_P D cls [(lo, .inr (2, [.ref ra, .ref d0, .ref b0, .ref t0, .ref r0])), (ra, .inl (T 2, 6, .inr (.inr (.inr (.inr (fun j => some (rd j))))))), (rd i, .inr (0, [.ref q0, .int (nI n)])), (q0, .inl (T 0, 440, .inl f))] t.heap := hP
  have hD : va_D A [(lo, .inr (2, [.ref ra, .ref d0, .ref b0, .ref t0, .ref r0])), (ra, .inl (T 2, 6, .inr (.inr (.inr (.inr (fun j => some (rd j))))))), (rd i, .inr (0, [.ref q0, .int (nI n)])), (q0, .inl (T 0, 440, .inl f))] := hD
  exact ⟨rfl, ⟨(), trivial, hP.sub (ws' := [(lo, .inr (2, [.ref ra, .ref d0, .ref b0, .ref t0, .ref r0])), (ra, .inl (T 2, 6, .inr (.inr (.inr (.inr (fun j => some (rd j))))))), (rd i, .inr (0, [.ref q0, .int (nI n)])), (q0, .inl (T 0, 440, .inl f))]) [0, 1, 2, 3] rfl, va_K.moved hal hK, hD.sub (ws' := [(lo, .inr (2, [.ref ra, .ref d0, .ref b0, .ref t0, .ref r0])), (ra, .inl (T 2, 6, .inr (.inr (.inr (.inr (fun j => some (rd j))))))), (rd i, .inr (0, [.ref q0, .int (nI n)])), (q0, .inl (T 0, 440, .inl f))]) [0, 1, 2, 3] (by decide) rfl⟩, hFF⟩
set_option maxHeartbeats 4000000 in
set_option maxRecDepth 100000 in
theorem c_add_x3 (l : Launch) (D : va_G) (T : Nat → ClassId) (g : Nat → Nat) (sz : Nat) (hl9 : l.stackTraces = false) (lo : Nat) (ra : Nat) (d0 : Nat) (b0 : Nat) (t0 : Nat) (r0 : Nat) (rd : Nat → Nat) (i : Nat) (q0 : Nat) (f : Nat → Int32) (n : Nat) (hi : i < 6) (v : Nat) (hv9 : v < 256) (hn : 320 ≤ n ∧ n < 900) : TX l yX5_add wsX5_add ({ frames := 7, cells := 1, slots := 6, locals := 110 } : Room) D T g [.ref lo, .int (nI i), .int (nI v)] [(lo, .inr (2, [.ref ra, .ref d0, .ref b0, .ref t0, .ref r0])), (ra, .inl (T 2, 6, .inr (.inr (.inr (.inr (fun j => some (rd j))))))), (rd i, .inr (0, [.ref q0, .int (nI n)])), (q0, .inl (T 0, 440, .inl f))] sz "java/lang/IllegalStateException" (fun u : Unit => True) (fun u : Unit => [(lo, .inr (2, [.ref ra, .ref d0, .ref b0, .ref t0, .ref r0])), (ra, .inl (T 2, 6, .inr (.inr (.inr (.inr (fun j => some (rd j))))))), (rd i, .inr (0, [.ref q0, .int (nI n)])), (q0, .inl (T 0, 440, .inl f))]) 1 6 := by
  refine vx_ofW (cc := cX5_add) (maxL := 4) (ret := (some .int)) (by decide) rfl ?_
  intro p e s m args below meth c s₁ B hml ht hv
  obtain ⟨rfl, hsz, hP, hK, hD0, hG⟩ := hv
  have hx := B.exec
  have hb := B.bytes
  have hr := B.returns
  have hts := atoms_spec (ws := wsX5_add) B.pre
  have hown : s.vm.findClass RX5 = some m.cls := findClass_of_methodNamed B.named
  have hlocks := B.notSynchronized
  have hi_X2 : ∀ w ∈ wsX20, w ∈ wsX5_add := by decide +kernel
  subst hsz
  have hD := hD0.self (sz := s.heap.size)
  generalize hAe : va_A [(lo, .inr (2, [.ref ra, .ref d0, .ref b0, .ref t0, .ref r0])), (ra, .inl (T 2, 6, .inr (.inr (.inr (.inr (fun j => some (rd j))))))), (rd i, .inr (0, [.ref q0, .int (nI n)])), (q0, .inl (T 0, 440, .inl f))] s.heap.size = A at hD hG ⊢
  have hA : ∀ q : Nat, s.heap.size ≤ q → A q := fun q h => by rw [← hAe]; exact Or.inr h
  have hS : va_S A s.heap s.heap [] := va_S.rf
  have hP : va_P D cls [(lo, .inr (2, [.ref ra, .ref d0, .ref b0, .ref t0, .ref r0])), (ra, .inl (T 2, 6, .inr (.inr (.inr (.inr (fun j => some (rd j))))))), (rd i, .inr (0, [.ref q0, .int (nI n)])), (q0, .inl (T 0, 440, .inl f))] s.heap := hP
  have hl := lv_entry ([.ref lo, .int (nI i), .int (nI v)]) (n := 4) (Nat.le_of_ble_eq_true rfl)
  rw [lg_entry_eq]
  generalize (lg_sl ([.ref lo, .int (nI i), .int (nI v)]) ++ List.replicate (4 - (lg_sl ([.ref lo, .int (nI i), .int (nI v)])).length) Slot.unset).toArray = ls at hl ⊢
  have hl : lv_has ls 4 [(0, .ref lo), (1, .int (nI i)), (2, .int (nI v))] := hl
  refine lv_aload_n hx hb dX5_add_0 rfl (lv_at hl 0 rfl) ?_
  refine lv_iload_n hx hb dX5_add_1 rfl (lv_at hl 1 rfl) ?_
  refine ro_V (As := [.int (nI i)]) (rest := []) (wc := [(lo, .inr (2, [.ref ra, .ref d0, .ref b0, .ref t0, .ref r0])), (ra, .inl (T 2, 6, .inr (.inr (.inr (.inr (fun j => some (rd j)))))))]) (r := .ref (rd i)) ⟨hx, hb, hml, hown, hts⟩ (c_X5_rowAt l D T g lo ra d0 b0 t0 r0 rd i hi) (cwV 1 hts gX5_add_X5_rowAt rfl rfl rfl (by decide +kernel) ⟨Nat.le_of_ble_eq_true rfl, Nat.le_of_ble_eq_true rfl⟩) (va_recv hK hP (ci := 2) (q0 := 0) rfl rfl) hP hK hG hS [0, 1] rfl ⟨Nat.zero_le _, Nat.zero_le _⟩ rfl hl.1 (Nat.le_of_ble_eq_true rfl) dX5_add_2 rfl ?_
  refine lv_astore_n (lv' := [(3, .ref (rd i)), (0, .ref lo), (1, .int (nI i)), (2, .int (nI v))]) hx hb dX5_add_5 rfl hl (by decide) rfl (fun ls hl => ?_)
  refine lv_iload_n hx hb dX5_add_6 rfl (lv_at hl 3 rfl) ?_
  refine rv_S (As := [.int (nI v)]) (rest := []) (wc := []) ⟨hx, hb, hml, hown, hts⟩ (c_X5_checkByte l D T g v hv9) (va_cwS 1 hts gX5_add_X5_checkByte rfl rfl rfl (by decide +kernel) ⟨Nat.le_of_ble_eq_true rfl, Nat.le_of_ble_eq_true rfl⟩) hP hK hG hS [] rfl ⟨Nat.zero_le _, Nat.zero_le _⟩ rfl hl.1 (Nat.le_of_ble_eq_true rfl) dX5_add_7 rfl ?_
  refine lv_aload_n hx hb dX5_add_10 rfl (lv_at hl 0 rfl) ?_
  refine va_getN (D := D) (ci := 0) (v := .int (nI n)) (C := RX2) (T := TX2) (N := 2) hx hb hts hi_X2 hown hK hP 2 rfl rfl 1 (by decide) (nx0 hG) (fun _ h9 => h9) rfl dX5_add_11 ?_
  refine lv_iconst (v := (nI 1)) hx hb dX5_add_14 (by decide +kernel) ?_
  refine ln_add hx hb dX5_add_15 ?_
  refine tx_S (As := [.int (nI (n + 1))]) (rest := []) (wc := []) (wr := [(lo, .inr (2, [.ref ra, .ref d0, .ref b0, .ref t0, .ref r0])), (ra, .inl (T 2, 6, .inr (.inr (.inr (.inr (fun j => some (rd j))))))), (rd i, .inr (0, [.ref q0, .int (nI n)])), (q0, .inl (T 0, 440, .inl f))]) ⟨hx, hb, hml, hown, hts⟩ (c_X5_checkRoom_x l D T g s.heap.size hl9 (n + 1) (by omega)) (va_cwS 1 hts gX5_add_X5_checkRoom rfl rfl rfl (by decide +kernel) ⟨Nat.le_of_ble_eq_true rfl, Nat.le_of_ble_eq_true rfl⟩) hP hD hK hG hS hA [] [0, 1, 2, 3] rfl (by decide) rfl (by decide) (by decide) ⟨Nat.le_of_ble_eq_true rfl, Nat.le_of_ble_eq_true rfl⟩ rfl hl.1 (Nat.le_of_ble_eq_true rfl) dX5_add_16 rfl ht hlocks (fun u t hal hq1 hP hD hFF => ?_) (Nat.le_of_ble_eq_true rfl) (Nat.le_of_ble_eq_true rfl)
  have hP : va_P D cls [(lo, .inr (2, [.ref ra, .ref d0, .ref b0, .ref t0, .ref r0])), (ra, .inl (T 2, 6, .inr (.inr (.inr (.inr (fun j => some (rd j))))))), (rd i, .inr (0, [.ref q0, .int (nI n)])), (q0, .inl (T 0, 440, .inl f))] t.heap := hP
  have hD : va_D A [(lo, .inr (2, [.ref ra, .ref d0, .ref b0, .ref t0, .ref r0])), (ra, .inl (T 2, 6, .inr (.inr (.inr (.inr (fun j => some (rd j))))))), (rd i, .inr (0, [.ref q0, .int (nI n)])), (q0, .inl (T 0, 440, .inl f))] := hD
  exact ⟨rfl, ⟨(), trivial, hP.sub (ws' := [(lo, .inr (2, [.ref ra, .ref d0, .ref b0, .ref t0, .ref r0])), (ra, .inl (T 2, 6, .inr (.inr (.inr (.inr (fun j => some (rd j))))))), (rd i, .inr (0, [.ref q0, .int (nI n)])), (q0, .inl (T 0, 440, .inl f))]) [0, 1, 2, 3] rfl, va_K.moved hal hK, hD.sub (ws' := [(lo, .inr (2, [.ref ra, .ref d0, .ref b0, .ref t0, .ref r0])), (ra, .inl (T 2, 6, .inr (.inr (.inr (.inr (fun j => some (rd j))))))), (rd i, .inr (0, [.ref q0, .int (nI n)])), (q0, .inl (T 0, 440, .inl f))]) [0, 1, 2, 3] (by decide) rfl⟩, hFF⟩
set_option maxHeartbeats 4000000 in
set_option maxRecDepth 100000 in
/-- put: no such row -/
theorem c_put_x1 (l : Launch) (D : va_G) (T : Nat → ClassId) (g : Nat → Nat) (sz : Nat) (hl9 : l.stackTraces = false) (lo : Nat) (ra : Nat) (d0 : Nat) (b0 : Nat) (t0 : Nat) (r0 : Nat) (rd : Nat → Nat) (i : Int32) (hi : i < 0 ∨ ¬ i < nI 6) (x0 : Int32) (x1 : Int32) : TX l yX5_put wsX5_put ({ frames := 7, cells := 1, slots := 6, locals := 111 } : Room) D T g [.ref lo, .int i, .int x0, .int x1] [(lo, .inr (2, [.ref ra, .ref d0, .ref b0, .ref t0, .ref r0])), (ra, .inl (T 2, 6, .inr (.inr (.inr (.inr (fun j => some (rd j)))))))] sz "java/lang/IndexOutOfBoundsException" (fun u : Unit => True) (fun u : Unit => [(lo, .inr (2, [.ref ra, .ref d0, .ref b0, .ref t0, .ref r0])), (ra, .inl (T 2, 6, .inr (.inr (.inr (.inr (fun j => some (rd j)))))))]) 1 6 := by
  refine vx_ofW (cc := cX5_put) (maxL := 6) (ret := (some .int)) (by decide) rfl ?_
  intro p e s m args below meth c s₁ B hml ht hv
  obtain ⟨rfl, hsz, hP, hK, hD0, hG⟩ := hv
  have hx := B.exec
  have hb := B.bytes
  have hr := B.returns
  have hts := atoms_spec (ws := wsX5_put) B.pre
  have hown : s.vm.findClass RX5 = some m.cls := findClass_of_methodNamed B.named
  have hlocks := B.notSynchronized
  subst hsz
  have hD := hD0.self (sz := s.heap.size)
  generalize hAe : va_A [(lo, .inr (2, [.ref ra, .ref d0, .ref b0, .ref t0, .ref r0])), (ra, .inl (T 2, 6, .inr (.inr (.inr (.inr (fun j => some (rd j)))))))] s.heap.size = A at hD hG ⊢
  have hA : ∀ q : Nat, s.heap.size ≤ q → A q := fun q h => by rw [← hAe]; exact Or.inr h
  have hS : va_S A s.heap s.heap [] := va_S.rf
  have hP : va_P D cls [(lo, .inr (2, [.ref ra, .ref d0, .ref b0, .ref t0, .ref r0])), (ra, .inl (T 2, 6, .inr (.inr (.inr (.inr (fun j => some (rd j)))))))] s.heap := hP
  have hl := lv_entry ([.ref lo, .int i, .int x0, .int x1]) (n := 6) (Nat.le_of_ble_eq_true rfl)
  rw [lg_entry_eq]
  generalize (lg_sl ([.ref lo, .int i, .int x0, .int x1]) ++ List.replicate (6 - (lg_sl ([.ref lo, .int i, .int x0, .int x1])).length) Slot.unset).toArray = ls at hl ⊢
  have hl : lv_has ls 6 [(0, .ref lo), (1, .int i), (2, .int x0), (3, .int x1)] := hl
  refine lv_aload_n hx hb dX5_put_0 rfl (lv_at hl 0 rfl) ?_
  refine lv_iload_n hx hb dX5_put_1 rfl (lv_at hl 1 rfl) ?_
  refine tx_V (As := [.int i]) (rest := []) (wc := [(lo, .inr (2, [.ref ra, .ref d0, .ref b0, .ref t0, .ref r0])), (ra, .inl (T 2, 6, .inr (.inr (.inr (.inr (fun j => some (rd j)))))))]) (wr := []) ⟨hx, hb, hml, hown, hts⟩ (c_X5_rowAt_x l D T g s.heap.size hl9 lo ra d0 b0 t0 r0 rd i hi) (cwV 1 hts gX5_put_X5_rowAt rfl rfl rfl (by decide +kernel) ⟨Nat.le_of_ble_eq_true rfl, Nat.le_of_ble_eq_true rfl⟩) (va_recv hK hP (ci := 2) (q0 := 0) rfl rfl) hP hD hK hG hS hA [0, 1] [] rfl (by decide) rfl (by decide) (by decide) ⟨Nat.le_of_ble_eq_true rfl, Nat.le_of_ble_eq_true rfl⟩ rfl hl.1 (Nat.le_of_ble_eq_true rfl) dX5_put_2 rfl ht hlocks (fun u t hal hq1 hP hD hFF => ?_) (Nat.le_of_ble_eq_true rfl) (Nat.le_of_ble_eq_true rfl)
  have hP : va_P D cls [(lo, .inr (2, [.ref ra, .ref d0, .ref b0, .ref t0, .ref r0])), (ra, .inl (T 2, 6, .inr (.inr (.inr (.inr (fun j => some (rd j)))))))] t.heap := hP
  have hD : va_D A [(lo, .inr (2, [.ref ra, .ref d0, .ref b0, .ref t0, .ref r0])), (ra, .inl (T 2, 6, .inr (.inr (.inr (.inr (fun j => some (rd j)))))))] := hD
  exact ⟨rfl, ⟨(), trivial, hP.sub (ws' := [(lo, .inr (2, [.ref ra, .ref d0, .ref b0, .ref t0, .ref r0])), (ra, .inl (T 2, 6, .inr (.inr (.inr (.inr (fun j => some (rd j)))))))]) [0, 1] rfl, va_K.moved hal hK, hD.sub (ws' := [(lo, .inr (2, [.ref ra, .ref d0, .ref b0, .ref t0, .ref r0])), (ra, .inl (T 2, 6, .inr (.inr (.inr (.inr (fun j => some (rd j)))))))]) [0, 1] (by decide) rfl⟩, hFF⟩
set_option maxHeartbeats 4000000 in
set_option maxRecDepth 100000 in
/-- put -/
theorem c_put (l : Launch) (D : va_G) (T : Nat → ClassId) (g : Nat → Nat) (sz : Nat) (lo : Nat) (ra : Nat) (d0 : Nat) (b0 : Nat) (t0 : Nat) (r0 : Nat) (rd : Nat → Nat) (i : Nat) (q0 : Nat) (f : Nat → Int32) (n : Nat) (b : Nat → Nat) (hb9 : RB f n b) (p9 : Nat) (v : Nat) (hi : i < 6) (hp : p9 < n) (hv9 : v < 256) : MU l yX5_put wsX5_put ({ frames := 1, cells := 0, slots := 0, locals := 22 } : Room) D T g [.ref lo, .int (nI i), .int (nI p9), .int (nI v)] [(lo, .inr (2, [.ref ra, .ref d0, .ref b0, .ref t0, .ref r0])), (ra, .inl (T 2, 6, .inr (.inr (.inr (.inr (fun j => some (rd j))))))), (rd i, .inr (0, [.ref q0, .int (nI n)])), (q0, .inl (T 0, 440, .inl f))] sz (fun u : Unit => some (.int (nI (b p9)))) (fun u : Unit => True) (fun u : Unit => [(lo, .inr (2, [.ref ra, .ref d0, .ref b0, .ref t0, .ref r0])), (ra, .inl (T 2, 6, .inr (.inr (.inr (.inr (fun j => some (rd j))))))), (rd i, .inr (0, [.ref q0, .int (nI n)])), (q0, .inl (T 0, 440, .inl (upd f p9 (nI v))))]) 0 0 := by
  refine Met.ofW (cc := cX5_put) (maxL := 6) (ret := (some .int)) (by decide) rfl ?_
  intro p e s m args below meth c s₁ B hml hv
  obtain ⟨rfl, hsz, hP, hK, hD0, hG⟩ := hv
  have hx := B.exec
  have hb := B.bytes
  have hr := B.returns
  have hts := atoms_spec (ws := wsX5_put) B.pre
  have hown : s.vm.findClass RX5 = some m.cls := findClass_of_methodNamed B.named
  have hlocks := B.notSynchronized
  have hi_X2 : ∀ w ∈ wsX20, w ∈ wsX5_put := by decide +kernel
  subst hsz
  have hD := hD0.self (sz := s.heap.size)
  generalize hAe : va_A [(lo, .inr (2, [.ref ra, .ref d0, .ref b0, .ref t0, .ref r0])), (ra, .inl (T 2, 6, .inr (.inr (.inr (.inr (fun j => some (rd j))))))), (rd i, .inr (0, [.ref q0, .int (nI n)])), (q0, .inl (T 0, 440, .inl f))] s.heap.size = A at hD hG ⊢
  have hA : ∀ q : Nat, s.heap.size ≤ q → A q := fun q h => by rw [← hAe]; exact Or.inr h
  have hS : va_S A s.heap s.heap [] := va_S.rf
  have hP : va_P D cls [(lo, .inr (2, [.ref ra, .ref d0, .ref b0, .ref t0, .ref r0])), (ra, .inl (T 2, 6, .inr (.inr (.inr (.inr (fun j => some (rd j))))))), (rd i, .inr (0, [.ref q0, .int (nI n)])), (q0, .inl (T 0, 440, .inl f))] s.heap := hP
  have hl := lv_entry ([.ref lo, .int (nI i), .int (nI p9), .int (nI v)]) (n := 6) (Nat.le_of_ble_eq_true rfl)
  rw [lg_entry_eq]
  generalize (lg_sl ([.ref lo, .int (nI i), .int (nI p9), .int (nI v)]) ++ List.replicate (6 - (lg_sl ([.ref lo, .int (nI i), .int (nI p9), .int (nI v)])).length) Slot.unset).toArray = ls at hl ⊢
  have hl : lv_has ls 6 [(0, .ref lo), (1, .int (nI i)), (2, .int (nI p9)), (3, .int (nI v))] := hl
  have hn := hb9.1
  refine lv_aload_n hx hb dX5_put_0 rfl (lv_at hl 0 rfl) ?_
  refine lv_iload_n hx hb dX5_put_1 rfl (lv_at hl 1 rfl) ?_
  refine ro_V (As := [.int (nI i)]) (rest := []) (wc := [(lo, .inr (2, [.ref ra, .ref d0, .ref b0, .ref t0, .ref r0])), (ra, .inl (T 2, 6, .inr (.inr (.inr (.inr (fun j => some (rd j)))))))]) (r := .ref (rd i)) ⟨hx, hb, hml, hown, hts⟩ (c_X5_rowAt l D T g lo ra d0 b0 t0 r0 rd i hi) (cwV 1 hts gX5_put_X5_rowAt rfl rfl rfl (by decide +kernel) ⟨Nat.le_of_ble_eq_true rfl, Nat.le_of_ble_eq_true rfl⟩) (va_recv hK hP (ci := 2) (q0 := 0) rfl rfl) hP hK hG hS [0, 1] rfl ⟨Nat.zero_le _, Nat.zero_le _⟩ rfl hl.1 (Nat.le_of_ble_eq_true rfl) dX5_put_2 rfl ?_
  refine lv_astore (lv' := [(4, .ref (rd i)), (0, .ref lo), (1, .int (nI i)), (2, .int (nI p9)), (3, .int (nI v))]) hx hb dX5_put_5 hl (by decide) rfl (fun ls hl => ?_)
  refine lv_iload_n hx hb dX5_put_7 rfl (lv_at hl 3 rfl) ?_
  refine lv_aload hx hb dX5_put_8 (lv_at hl 0 rfl) ?_
  refine va_getN (D := D) (ci := 0) (v := .int (nI n)) (C := RX2) (T := TX2) (N := 2) hx hb hts hi_X2 hown hK hP 2 rfl rfl 1 (by decide) (nx0 hG) (fun _ h9 => h9) rfl dX5_put_10 ?_
  refine rv_S (As := [.int (nI p9), .int (nI n)]) (rest := []) (wc := []) ⟨hx, hb, hml, hown, hts⟩ (c_X5_checkPlace l D T g p9 n (by omega)) (va_cwS 2 hts gX5_put_X5_checkPlace rfl rfl rfl (by decide +kernel) ⟨Nat.le_of_ble_eq_true rfl, Nat.le_of_ble_eq_true rfl⟩) hP hK hG hS [] rfl ⟨Nat.zero_le _, Nat.zero_le _⟩ rfl hl.1 (Nat.le_of_ble_eq_true rfl) dX5_put_13 rfl ?_
  refine lv_iload_n hx hb dX5_put_16 rfl (lv_at hl 4 rfl) ?_
  refine rv_S (As := [.int (nI v)]) (rest := []) (wc := []) ⟨hx, hb, hml, hown, hts⟩ (c_X5_checkByte l D T g v hv9) (va_cwS 1 hts gX5_put_X5_checkByte rfl rfl rfl (by decide +kernel) ⟨Nat.le_of_ble_eq_true rfl, Nat.le_of_ble_eq_true rfl⟩) hP hK hG hS [] rfl ⟨Nat.zero_le _, Nat.zero_le _⟩ rfl hl.1 (Nat.le_of_ble_eq_true rfl) dX5_put_17 rfl ?_
  refine lv_aload hx hb dX5_put_20 (lv_at hl 0 rfl) ?_
  refine lv_iload_n hx hb dX5_put_22 rfl (lv_at hl 3 rfl) ?_
  refine ro_V (As := [.int (nI p9)]) (rest := []) (wc := [(rd i, .inr (0, [.ref q0, .int (nI n)])), (q0, .inl (T 0, 440, .inl f))]) (r := .int (nI (b p9))) ⟨hx, hb, hml, hown, hts⟩ (c_X2_atB l D T g (rd i) q0 f n p9 b hb9 hp) (cwV 1 hts gX5_put_X2_at rfl rfl rfl (by decide +kernel) ⟨Nat.le_of_ble_eq_true rfl, Nat.le_of_ble_eq_true rfl⟩) (va_recv hK hP (ci := 0) (q0 := 2) rfl rfl) hP hK hG hS [2, 3] rfl ⟨Nat.zero_le _, Nat.zero_le _⟩ rfl hl.1 (Nat.le_of_ble_eq_true rfl) dX5_put_23 rfl ?_
  refine lv_istore (lv' := [(5, .int (nI (b p9))), (4, .ref (rd i)), (0, .ref lo), (1, .int (nI i)), (2, .int (nI p9)), (3, .int (nI v))]) hx hb dX5_put_26 hl (by decide) rfl (fun ls hl => ?_)
  refine lv_aload hx hb dX5_put_28 (lv_at hl 1 rfl) ?_
  refine lv_iload_n hx hb dX5_put_30 rfl (lv_at hl 4 rfl) ?_
  refine lv_iload_n hx hb dX5_put_31 rfl (lv_at hl 5 rfl) ?_
  refine mu_V (As := [.int (nI p9), .int (nI v)]) (rest := []) (wc := [(rd i, .inr (0, [.ref q0, .int (nI n)])), (q0, .inl (T 0, 440, .inl f))]) (wr := [(lo, .inr (2, [.ref ra, .ref d0, .ref b0, .ref t0, .ref r0])), (ra, .inl (T 2, 6, .inr (.inr (.inr (.inr (fun j => some (rd j)))))))]) ⟨hx, hb, hml, hown, hts⟩ (c_X2_replace l D T g s.heap.size (rd i) q0 f n p9 (nI v) (by omega)) (cwV 2 hts gX5_put_X2_replace rfl rfl rfl (by decide +kernel) ⟨Nat.le_of_ble_eq_true rfl, Nat.le_of_ble_eq_true rfl⟩) (va_recv hK hP (ci := 0) (q0 := 2) rfl rfl) hP hD hK hG hS hA [2, 3] [0, 1] rfl (by decide) rfl (by decide) (by decide) ⟨Nat.le_of_ble_eq_true rfl, Nat.le_of_ble_eq_true rfl⟩ rfl hl.1 (Nat.le_of_ble_eq_true rfl) dX5_put_32 rfl (fun u H locs hq1 hP hD hS => ?_)
  have hP : va_P D cls [(lo, .inr (2, [.ref ra, .ref d0, .ref b0, .ref t0, .ref r0])), (ra, .inl (T 2, 6, .inr (.inr (.inr (.inr (fun j => some (rd j))))))), ((rd i), .inr (0, [.ref q0, .int (nI n)])), (q0, .inl (T 0, 440, .inl (upd f p9 (nI v))))] H := hP
  have hD : va_D A [(lo, .inr (2, [.ref ra, .ref d0, .ref b0, .ref t0, .ref r0])), (ra, .inl (T 2, 6, .inr (.inr (.inr (.inr (fun j => some (rd j))))))), ((rd i), .inr (0, [.ref q0, .int (nI n)])), (q0, .inl (T 0, 440, .inl (upd f p9 (nI v))))] := hD
  refine W.eq (g2 := F0 m 35 ls []) rfl ?_
  refine lv_iload hx hb dX5_put_35 (lv_at hl 0 rfl) ?_
  have hP9 := hP.sub (ws' := [(lo, .inr (2, [.ref ra, .ref d0, .ref b0, .ref t0, .ref r0])), (ra, .inl (T 2, 6, .inr (.inr (.inr (.inr (fun j => some (rd j))))))), ((rd i), .inr (0, [.ref q0, .int (nI n)])), (q0, .inl (T 0, 440, .inl (upd f p9 (nI v))))]) [0, 1, 2, 3] rfl
  have hD9 := hD.sub (ws' := [(lo, .inr (2, [.ref ra, .ref d0, .ref b0, .ref t0, .ref r0])), (ra, .inl (T 2, 6, .inr (.inr (.inr (.inr (fun j => some (rd j))))))), ((rd i), .inr (0, [.ref q0, .int (nI n)])), (q0, .inl (T 0, 440, .inl (upd f p9 (nI v))))]) [0, 1, 2, 3] (by decide) rfl
  exact W.iret (v := (nI (b p9))) hx hb hr (fun t ht hW => ⟨⟨(), rfl, trivial, (by rw [ht]; exact hP9), va_K.moved hW.alike hK, hD9⟩, hS.F ht⟩) hS.2.2 dX5_put_37
set_option maxHeartbeats 4000000 in
set_option maxRecDepth 100000 in
theorem c_put_x2 (l : Launch) (D : va_G) (T : Nat → ClassId) (g : Nat → Nat) (sz : Nat) (hl9 : l.stackTraces = false) (lo : Nat) (ra : Nat) (d0 : Nat) (b0 : Nat) (t0 : Nat) (r0 : Nat) (rd : Nat → Nat) (i : Nat) (q0 : Nat) (f : Nat → Int32) (n : Nat) (hi : i < 6) (p9 : Int32) (v : Int32) (hp : p9 < 0 ∨ ¬ p9 < nI n) : TX l yX5_put wsX5_put ({ frames := 7, cells := 1, slots := 6, locals := 111 } : Room) D T g [.ref lo, .int (nI i), .int p9, .int v] [(lo, .inr (2, [.ref ra, .ref d0, .ref b0, .ref t0, .ref r0])), (ra, .inl (T 2, 6, .inr (.inr (.inr (.inr (fun j => some (rd j))))))), (rd i, .inr (0, [.ref q0, .int (nI n)])), (q0, .inl (T 0, 440, .inl f))] sz "java/lang/IndexOutOfBoundsException" (fun u : Unit => True) (fun u : Unit => [(lo, .inr (2, [.ref ra, .ref d0, .ref b0, .ref t0, .ref r0])), (ra, .inl (T 2, 6, .inr (.inr (.inr (.inr (fun j => some (rd j))))))), (rd i, .inr (0, [.ref q0, .int (nI n)])), (q0, .inl (T 0, 440, .inl f))]) 1 6 := by
  refine vx_ofW (cc := cX5_put) (maxL := 6) (ret := (some .int)) (by decide) rfl ?_
  intro p e s m args below meth c s₁ B hml ht hv
  obtain ⟨rfl, hsz, hP, hK, hD0, hG⟩ := hv
  have hx := B.exec
  have hb := B.bytes
  have hr := B.returns
  have hts := atoms_spec (ws := wsX5_put) B.pre
  have hown : s.vm.findClass RX5 = some m.cls := findClass_of_methodNamed B.named
  have hlocks := B.notSynchronized
  have hi_X2 : ∀ w ∈ wsX20, w ∈ wsX5_put := by decide +kernel
  subst hsz
  have hD := hD0.self (sz := s.heap.size)
  generalize hAe : va_A [(lo, .inr (2, [.ref ra, .ref d0, .ref b0, .ref t0, .ref r0])), (ra, .inl (T 2, 6, .inr (.inr (.inr (.inr (fun j => some (rd j))))))), (rd i, .inr (0, [.ref q0, .int (nI n)])), (q0, .inl (T 0, 440, .inl f))] s.heap.size = A at hD hG ⊢
  have hA : ∀ q : Nat, s.heap.size ≤ q → A q := fun q h => by rw [← hAe]; exact Or.inr h
  have hS : va_S A s.heap s.heap [] := va_S.rf
  have hP : va_P D cls [(lo, .inr (2, [.ref ra, .ref d0, .ref b0, .ref t0, .ref r0])), (ra, .inl (T 2, 6, .inr (.inr (.inr (.inr (fun j => some (rd j))))))), (rd i, .inr (0, [.ref q0, .int (nI n)])), (q0, .inl (T 0, 440, .inl f))] s.heap := hP
  have hl := lv_entry ([.ref lo, .int (nI i), .int p9, .int v]) (n := 6) (Nat.le_of_ble_eq_true rfl)
  rw [lg_entry_eq]
  generalize (lg_sl ([.ref lo, .int (nI i), .int p9, .int v]) ++ List.replicate (6 - (lg_sl ([.ref lo, .int (nI i), .int p9, .int v])).length) Slot.unset).toArray = ls at hl ⊢
  have hl : lv_has ls 6 [(0, .ref lo), (1, .int (nI i)), (2, .int p9), (3, .int v)] := hl
  refine lv_aload_n hx hb dX5_put_0 rfl (lv_at hl 0 rfl) ?_
  refine lv_iload_n hx hb dX5_put_1 rfl (lv_at hl 1 rfl) ?_
  refine ro_V (As := [.int (nI i)]) (rest := []) (wc := [(lo, .inr (2, [.ref ra, .ref d0, .ref b0, .ref t0, .ref r0])), (ra, .inl (T 2, 6, .inr (.inr (.inr (.inr (fun j => some (rd j)))))))]) (r := .ref (rd i)) ⟨hx, hb, hml, hown, hts⟩ (c_X5_rowAt l D T g lo ra d0 b0 t0 r0 rd i hi) (cwV 1 hts gX5_put_X5_rowAt rfl rfl rfl (by decide +kernel) ⟨Nat.le_of_ble_eq_true rfl, Nat.le_of_ble_eq_true rfl⟩) (va_recv hK hP (ci := 2) (q0 := 0) rfl rfl) hP hK hG hS [0, 1] rfl ⟨Nat.zero_le _, Nat.zero_le _⟩ rfl hl.1 (Nat.le_of_ble_eq_true rfl) dX5_put_2 rfl ?_
  refine lv_astore (lv' := [(4, .ref (rd i)), (0, .ref lo), (1, .int (nI i)), (2, .int p9), (3, .int v)]) hx hb dX5_put_5 hl (by decide) rfl (fun ls hl => ?_)
  refine lv_iload_n hx hb dX5_put_7 rfl (lv_at hl 3 rfl) ?_
  refine lv_aload hx hb dX5_put_8 (lv_at hl 0 rfl) ?_
  refine va_getN (D := D) (ci := 0) (v := .int (nI n)) (C := RX2) (T := TX2) (N := 2) hx hb hts hi_X2 hown hK hP 2 rfl rfl 1 (by decide) (nx0 hG) (fun _ h9 => h9) rfl dX5_put_10 ?_
  refine tx_S (As := [.int p9, .int (nI n)]) (rest := []) (wc := []) (wr := [(lo, .inr (2, [.ref ra, .ref d0, .ref b0, .ref t0, .ref r0])), (ra, .inl (T 2, 6, .inr (.inr (.inr (.inr (fun j => some (rd j))))))), (rd i, .inr (0, [.ref q0, .int (nI n)])), (q0, .inl (T 0, 440, .inl f))]) ⟨hx, hb, hml, hown, hts⟩ (c_X5_checkPlace_x l D T g s.heap.size hl9 p9 n hp) (va_cwS 2 hts gX5_put_X5_checkPlace rfl rfl rfl (by decide +kernel) ⟨Nat.le_of_ble_eq_true rfl, Nat.le_of_ble_eq_true rfl⟩) hP hD hK hG hS hA [] [0, 1, 2, 3] rfl (by decide) rfl (by decide) (by decide) ⟨Nat.le_of_ble_eq_true rfl, Nat.le_of_ble_eq_true rfl⟩ rfl hl.1 (Nat.le_of_ble_eq_true rfl) dX5_put_13 rfl ht hlocks (fun u t hal hq1 hP hD hFF => ?_) (Nat.le_of_ble_eq_true rfl) (Nat.le_of_ble_eq_true rfl)
  have hP : va_P D cls [(lo, .inr (2, [.ref ra, .ref d0, .ref b0, .ref t0, .ref r0])), (ra, .inl (T 2, 6, .inr (.inr (.inr (.inr (fun j => some (rd j))))))), (rd i, .inr (0, [.ref q0, .int (nI n)])), (q0, .inl (T 0, 440, .inl f))] t.heap := hP
  have hD : va_D A [(lo, .inr (2, [.ref ra, .ref d0, .ref b0, .ref t0, .ref r0])), (ra, .inl (T 2, 6, .inr (.inr (.inr (.inr (fun j => some (rd j))))))), (rd i, .inr (0, [.ref q0, .int (nI n)])), (q0, .inl (T 0, 440, .inl f))] := hD
  exact ⟨rfl, ⟨(), trivial, hP.sub (ws' := [(lo, .inr (2, [.ref ra, .ref d0, .ref b0, .ref t0, .ref r0])), (ra, .inl (T 2, 6, .inr (.inr (.inr (.inr (fun j => some (rd j))))))), (rd i, .inr (0, [.ref q0, .int (nI n)])), (q0, .inl (T 0, 440, .inl f))]) [0, 1, 2, 3] rfl, va_K.moved hal hK, hD.sub (ws' := [(lo, .inr (2, [.ref ra, .ref d0, .ref b0, .ref t0, .ref r0])), (ra, .inl (T 2, 6, .inr (.inr (.inr (.inr (fun j => some (rd j))))))), (rd i, .inr (0, [.ref q0, .int (nI n)])), (q0, .inl (T 0, 440, .inl f))]) [0, 1, 2, 3] (by decide) rfl⟩, hFF⟩
set_option maxHeartbeats 4000000 in
set_option maxRecDepth 100000 in
theorem c_put_x3 (l : Launch) (D : va_G) (T : Nat → ClassId) (g : Nat → Nat) (sz : Nat) (hl9 : l.stackTraces = false) (lo : Nat) (ra : Nat) (d0 : Nat) (b0 : Nat) (t0 : Nat) (r0 : Nat) (rd : Nat → Nat) (i : Nat) (q0 : Nat) (f : Nat → Int32) (n : Nat) (hi : i < 6) (p9 : Nat) (v : Int32) (hp : p9 < n ∧ n < 1000) (hv9 : v < 0 ∨ ¬ v ≤ nI 255) : TX l yX5_put wsX5_put ({ frames := 7, cells := 1, slots := 6, locals := 110 } : Room) D T g [.ref lo, .int (nI i), .int (nI p9), .int v] [(lo, .inr (2, [.ref ra, .ref d0, .ref b0, .ref t0, .ref r0])), (ra, .inl (T 2, 6, .inr (.inr (.inr (.inr (fun j => some (rd j))))))), (rd i, .inr (0, [.ref q0, .int (nI n)])), (q0, .inl (T 0, 440, .inl f))] sz "java/lang/IllegalArgumentException" (fun u : Unit => True) (fun u : Unit => [(lo, .inr (2, [.ref ra, .ref d0, .ref b0, .ref t0, .ref r0])), (ra, .inl (T 2, 6, .inr (.inr (.inr (.inr (fun j => some (rd j))))))), (rd i, .inr (0, [.ref q0, .int (nI n)])), (q0, .inl (T 0, 440, .inl f))]) 1 6 := by
  refine vx_ofW (cc := cX5_put) (maxL := 6) (ret := (some .int)) (by decide) rfl ?_
  intro p e s m args below meth c s₁ B hml ht hv
  obtain ⟨rfl, hsz, hP, hK, hD0, hG⟩ := hv
  have hx := B.exec
  have hb := B.bytes
  have hr := B.returns
  have hts := atoms_spec (ws := wsX5_put) B.pre
  have hown : s.vm.findClass RX5 = some m.cls := findClass_of_methodNamed B.named
  have hlocks := B.notSynchronized
  have hi_X2 : ∀ w ∈ wsX20, w ∈ wsX5_put := by decide +kernel
  subst hsz
  have hD := hD0.self (sz := s.heap.size)
  generalize hAe : va_A [(lo, .inr (2, [.ref ra, .ref d0, .ref b0, .ref t0, .ref r0])), (ra, .inl (T 2, 6, .inr (.inr (.inr (.inr (fun j => some (rd j))))))), (rd i, .inr (0, [.ref q0, .int (nI n)])), (q0, .inl (T 0, 440, .inl f))] s.heap.size = A at hD hG ⊢
  have hA : ∀ q : Nat, s.heap.size ≤ q → A q := fun q h => by rw [← hAe]; exact Or.inr h
  have hS : va_S A s.heap s.heap [] := va_S.rf
  have hP : va_P D cls [(lo, .inr (2, [.ref ra, .ref d0, .ref b0, .ref t0, .ref r0])), (ra, .inl (T 2, 6, .inr (.inr (.inr (.inr (fun j => some (rd j))))))), (rd i, .inr (0, [.ref q0, .int (nI n)])), (q0, .inl (T 0, 440, .inl f))] s.heap := hP
  have hl := lv_entry ([.ref lo, .int (nI i), .int (nI p9), .int v]) (n := 6) (Nat.le_of_ble_eq_true rfl)
  rw [lg_entry_eq]
  generalize (lg_sl ([.ref lo, .int (nI i), .int (nI p9), .int v]) ++ List.replicate (6 - (lg_sl ([.ref lo, .int (nI i), .int (nI p9), .int v])).length) Slot.unset).toArray = ls at hl ⊢
  have hl : lv_has ls 6 [(0, .ref lo), (1, .int (nI i)), (2, .int (nI p9)), (3, .int v)] := hl
  refine lv_aload_n hx hb dX5_put_0 rfl (lv_at hl 0 rfl) ?_
  refine lv_iload_n hx hb dX5_put_1 rfl (lv_at hl 1 rfl) ?_
  refine ro_V (As := [.int (nI i)]) (rest := []) (wc := [(lo, .inr (2, [.ref ra, .ref d0, .ref b0, .ref t0, .ref r0])), (ra, .inl (T 2, 6, .inr (.inr (.inr (.inr (fun j => some (rd j)))))))]) (r := .ref (rd i)) ⟨hx, hb, hml, hown, hts⟩ (c_X5_rowAt l D T g lo ra d0 b0 t0 r0 rd i hi) (cwV 1 hts gX5_put_X5_rowAt rfl rfl rfl (by decide +kernel) ⟨Nat.le_of_ble_eq_true rfl, Nat.le_of_ble_eq_true rfl⟩) (va_recv hK hP (ci := 2) (q0 := 0) rfl rfl) hP hK hG hS [0, 1] rfl ⟨Nat.zero_le _, Nat.zero_le _⟩ rfl hl.1 (Nat.le_of_ble_eq_true rfl) dX5_put_2 rfl ?_
  refine lv_astore (lv' := [(4, .ref (rd i)), (0, .ref lo), (1, .int (nI i)), (2, .int (nI p9)), (3, .int v)]) hx hb dX5_put_5 hl (by decide) rfl (fun ls hl => ?_)
  refine lv_iload_n hx hb dX5_put_7 rfl (lv_at hl 3 rfl) ?_
  refine lv_aload hx hb dX5_put_8 (lv_at hl 0 rfl) ?_
  refine va_getN (D := D) (ci := 0) (v := .int (nI n)) (C := RX2) (T := TX2) (N := 2) hx hb hts hi_X2 hown hK hP 2 rfl rfl 1 (by decide) (nx0 hG) (fun _ h9 => h9) rfl dX5_put_10 ?_
  refine rv_S (As := [.int (nI p9), .int (nI n)]) (rest := []) (wc := []) ⟨hx, hb, hml, hown, hts⟩ (c_X5_checkPlace l D T g p9 n hp) (va_cwS 2 hts gX5_put_X5_checkPlace rfl rfl rfl (by decide +kernel) ⟨Nat.le_of_ble_eq_true rfl, Nat.le_of_ble_eq_true rfl⟩) hP hK hG hS [] rfl ⟨Nat.zero_le _, Nat.zero_le _⟩ rfl hl.1 (Nat.le_of_ble_eq_true rfl) dX5_put_13 rfl ?_
  refine lv_iload_n hx hb dX5_put_16 rfl (lv_at hl 4 rfl) ?_
  refine tx_S (As := [.int v]) (rest := []) (wc := []) (wr := [(lo, .inr (2, [.ref ra, .ref d0, .ref b0, .ref t0, .ref r0])), (ra, .inl (T 2, 6, .inr (.inr (.inr (.inr (fun j => some (rd j))))))), (rd i, .inr (0, [.ref q0, .int (nI n)])), (q0, .inl (T 0, 440, .inl f))]) ⟨hx, hb, hml, hown, hts⟩ (c_X5_checkByte_x l D T g s.heap.size hl9 v hv9) (va_cwS 1 hts gX5_put_X5_checkByte rfl rfl rfl (by decide +kernel) ⟨Nat.le_of_ble_eq_true rfl, Nat.le_of_ble_eq_true rfl⟩) hP hD hK hG hS hA [] [0, 1, 2, 3] rfl (by decide) rfl (by decide) (by decide) ⟨Nat.le_of_ble_eq_true rfl, Nat.le_of_ble_eq_true rfl⟩ rfl hl.1 (Nat.le_of_ble_eq_true rfl) dX5_put_17 rfl ht hlocks (fun u t hal hq1 hP hD hFF => ?_) (Nat.le_of_ble_eq_true rfl) (Nat.le_of_ble_eq_true rfl)
  have hP : va_P D cls [(lo, .inr (2, [.ref ra, .ref d0, .ref b0, .ref t0, .ref r0])), (ra, .inl (T 2, 6, .inr (.inr (.inr (.inr (fun j => some (rd j))))))), (rd i, .inr (0, [.ref q0, .int (nI n)])), (q0, .inl (T 0, 440, .inl f))] t.heap := hP
  have hD : va_D A [(lo, .inr (2, [.ref ra, .ref d0, .ref b0, .ref t0, .ref r0])), (ra, .inl (T 2, 6, .inr (.inr (.inr (.inr (fun j => some (rd j))))))), (rd i, .inr (0, [.ref q0, .int (nI n)])), (q0, .inl (T 0, 440, .inl f))] := hD
  exact ⟨rfl, ⟨(), trivial, hP.sub (ws' := [(lo, .inr (2, [.ref ra, .ref d0, .ref b0, .ref t0, .ref r0])), (ra, .inl (T 2, 6, .inr (.inr (.inr (.inr (fun j => some (rd j))))))), (rd i, .inr (0, [.ref q0, .int (nI n)])), (q0, .inl (T 0, 440, .inl f))]) [0, 1, 2, 3] rfl, va_K.moved hal hK, hD.sub (ws' := [(lo, .inr (2, [.ref ra, .ref d0, .ref b0, .ref t0, .ref r0])), (ra, .inl (T 2, 6, .inr (.inr (.inr (.inr (fun j => some (rd j))))))), (rd i, .inr (0, [.ref q0, .int (nI n)])), (q0, .inl (T 0, 440, .inl f))]) [0, 1, 2, 3] (by decide) rfl⟩, hFF⟩
set_option maxHeartbeats 4000000 in
set_option maxRecDepth 100000 in
/-- insert: no such row -/
theorem c_insert_x1 (l : Launch) (D : va_G) (T : Nat → ClassId) (g : Nat → Nat) (sz : Nat) (hl9 : l.stackTraces = false) (lo : Nat) (ra : Nat) (d0 : Nat) (b0 : Nat) (t0 : Nat) (r0 : Nat) (rd : Nat → Nat) (i : Int32) (hi : i < 0 ∨ ¬ i < nI 6) (x0 : Int32) (x1 : Int32) : TX l yX5_insert wsX5_insert ({ frames := 7, cells := 1, slots := 6, locals := 111 } : Room) D T g [.ref lo, .int i, .int x0, .int x1] [(lo, .inr (2, [.ref ra, .ref d0, .ref b0, .ref t0, .ref r0])), (ra, .inl (T 2, 6, .inr (.inr (.inr (.inr (fun j => some (rd j)))))))] sz "java/lang/IndexOutOfBoundsException" (fun u : Unit => True) (fun u : Unit => [(lo, .inr (2, [.ref ra, .ref d0, .ref b0, .ref t0, .ref r0])), (ra, .inl (T 2, 6, .inr (.inr (.inr (.inr (fun j => some (rd j)))))))]) 1 6 := by
  refine vx_ofW (cc := cX5_insert) (maxL := 5) (ret := (some .int)) (by decide) rfl ?_
  intro p e s m args below meth c s₁ B hml ht hv
  obtain ⟨rfl, hsz, hP, hK, hD0, hG⟩ := hv
  have hx := B.exec
  have hb := B.bytes
  have hr := B.returns
  have hts := atoms_spec (ws := wsX5_insert) B.pre
  have hown : s.vm.findClass RX5 = some m.cls := findClass_of_methodNamed B.named
  have hlocks := B.notSynchronized
  subst hsz
  have hD := hD0.self (sz := s.heap.size)
  generalize hAe : va_A [(lo, .inr (2, [.ref ra, .ref d0, .ref b0, .ref t0, .ref r0])), (ra, .inl (T 2, 6, .inr (.inr (.inr (.inr (fun j => some (rd j)))))))] s.heap.size = A at hD hG ⊢
  have hA : ∀ q : Nat, s.heap.size ≤ q → A q := fun q h => by rw [← hAe]; exact Or.inr h
  have hS : va_S A s.heap s.heap [] := va_S.rf
  have hP : va_P D cls [(lo, .inr (2, [.ref ra, .ref d0, .ref b0, .ref t0, .ref r0])), (ra, .inl (T 2, 6, .inr (.inr (.inr (.inr (fun j => some (rd j)))))))] s.heap := hP
  have hl := lv_entry ([.ref lo, .int i, .int x0, .int x1]) (n := 5) (Nat.le_of_ble_eq_true rfl)
  rw [lg_entry_eq]
  generalize (lg_sl ([.ref lo, .int i, .int x0, .int x1]) ++ List.replicate (5 - (lg_sl ([.ref lo, .int i, .int x0, .int x1])).length) Slot.unset).toArray = ls at hl ⊢
  have hl : lv_has ls 5 [(0, .ref lo), (1, .int i), (2, .int x0), (3, .int x1)] := hl
  refine lv_aload_n hx hb dX5_insert_0 rfl (lv_at hl 0 rfl) ?_
  refine lv_iload_n hx hb dX5_insert_1 rfl (lv_at hl 1 rfl) ?_
  refine tx_V (As := [.int i]) (rest := []) (wc := [(lo, .inr (2, [.ref ra, .ref d0, .ref b0, .ref t0, .ref r0])), (ra, .inl (T 2, 6, .inr (.inr (.inr (.inr (fun j => some (rd j)))))))]) (wr := []) ⟨hx, hb, hml, hown, hts⟩ (c_X5_rowAt_x l D T g s.heap.size hl9 lo ra d0 b0 t0 r0 rd i hi) (cwV 1 hts gX5_insert_X5_rowAt rfl rfl rfl (by decide +kernel) ⟨Nat.le_of_ble_eq_true rfl, Nat.le_of_ble_eq_true rfl⟩) (va_recv hK hP (ci := 2) (q0 := 0) rfl rfl) hP hD hK hG hS hA [0, 1] [] rfl (by decide) rfl (by decide) (by decide) ⟨Nat.le_of_ble_eq_true rfl, Nat.le_of_ble_eq_true rfl⟩ rfl hl.1 (Nat.le_of_ble_eq_true rfl) dX5_insert_2 rfl ht hlocks (fun u t hal hq1 hP hD hFF => ?_) (Nat.le_of_ble_eq_true rfl) (Nat.le_of_ble_eq_true rfl)
  have hP : va_P D cls [(lo, .inr (2, [.ref ra, .ref d0, .ref b0, .ref t0, .ref r0])), (ra, .inl (T 2, 6, .inr (.inr (.inr (.inr (fun j => some (rd j)))))))] t.heap := hP
  have hD : va_D A [(lo, .inr (2, [.ref ra, .ref d0, .ref b0, .ref t0, .ref r0])), (ra, .inl (T 2, 6, .inr (.inr (.inr (.inr (fun j => some (rd j)))))))] := hD
  exact ⟨rfl, ⟨(), trivial, hP.sub (ws' := [(lo, .inr (2, [.ref ra, .ref d0, .ref b0, .ref t0, .ref r0])), (ra, .inl (T 2, 6, .inr (.inr (.inr (.inr (fun j => some (rd j)))))))]) [0, 1] rfl, va_K.moved hal hK, hD.sub (ws' := [(lo, .inr (2, [.ref ra, .ref d0, .ref b0, .ref t0, .ref r0])), (ra, .inl (T 2, 6, .inr (.inr (.inr (.inr (fun j => some (rd j)))))))]) [0, 1] (by decide) rfl⟩, hFF⟩
set_option maxHeartbeats 4000000 in
set_option maxRecDepth 100000 in
/-- insert -/
theorem c_insert (l : Launch) (D : va_G) (T : Nat → ClassId) (g : Nat → Nat) (sz : Nat) (lo : Nat) (ra : Nat) (d0 : Nat) (b0 : Nat) (t0 : Nat) (r0 : Nat) (rd : Nat → Nat) (i : Nat) (q0 : Nat) (f : Nat → Int32) (n : Nat) (b : Nat → Nat) (hb9 : RB f n b) (p9 : Nat) (v : Nat) (hi : i < 6) (hp : p9 ≤ n ∧ n < 320) (hv9 : v < 256) : MU l yX5_insert wsX5_insert ({ frames := 2, cells := 0, slots := 0, locals := 45 } : Room) D T g [.ref lo, .int (nI i), .int (nI p9), .int (nI v)] [(lo, .inr (2, [.ref ra, .ref d0, .ref b0, .ref t0, .ref r0])), (ra, .inl (T 2, 6, .inr (.inr (.inr (.inr (fun j => some (rd j))))))), (rd i, .inr (0, [.ref q0, .int (nI n)])), (q0, .inl (T 0, 440, .inl f))] sz (fun u : Nat → Int32 => some (.int (nI (n + 1)))) (fun u : Nat → Int32 => RB u (n + 1) (insN b p9 v)) (fun u : Nat → Int32 => [(lo, .inr (2, [.ref ra, .ref d0, .ref b0, .ref t0, .ref r0])), (ra, .inl (T 2, 6, .inr (.inr (.inr (.inr (fun j => some (rd j))))))), (rd i, .inr (0, [.ref q0, .int (nI (n + 1))])), (q0, .inl (T 0, 440, .inl u))]) 0 0 := by
  refine Met.ofW (cc := cX5_insert) (maxL := 5) (ret := (some .int)) (by decide) rfl ?_
  intro p e s m args below meth c s₁ B hml hv
  obtain ⟨rfl, hsz, hP, hK, hD0, hG⟩ := hv
  have hx := B.exec
  have hb := B.bytes
  have hr := B.returns
  have hts := atoms_spec (ws := wsX5_insert) B.pre
  have hown : s.vm.findClass RX5 = some m.cls := findClass_of_methodNamed B.named
  have hlocks := B.notSynchronized
  have hi_X2 : ∀ w ∈ wsX20, w ∈ wsX5_insert := by decide +kernel
  subst hsz
  have hD := hD0.self (sz := s.heap.size)
  generalize hAe : va_A [(lo, .inr (2, [.ref ra, .ref d0, .ref b0, .ref t0, .ref r0])), (ra, .inl (T 2, 6, .inr (.inr (.inr (.inr (fun j => some (rd j))))))), (rd i, .inr (0, [.ref q0, .int (nI n)])), (q0, .inl (T 0, 440, .inl f))] s.heap.size = A at hD hG ⊢
  have hA : ∀ q : Nat, s.heap.size ≤ q → A q := fun q h => by rw [← hAe]; exact Or.inr h
  have hS : va_S A s.heap s.heap [] := va_S.rf
  have hP : va_P D cls [(lo, .inr (2, [.ref ra, .ref d0, .ref b0, .ref t0, .ref r0])), (ra, .inl (T 2, 6, .inr (.inr (.inr (.inr (fun j => some (rd j))))))), (rd i, .inr (0, [.ref q0, .int (nI n)])), (q0, .inl (T 0, 440, .inl f))] s.heap := hP
  have hl := lv_entry ([.ref lo, .int (nI i), .int (nI p9), .int (nI v)]) (n := 5) (Nat.le_of_ble_eq_true rfl)
  rw [lg_entry_eq]
  generalize (lg_sl ([.ref lo, .int (nI i), .int (nI p9), .int (nI v)]) ++ List.replicate (5 - (lg_sl ([.ref lo, .int (nI i), .int (nI p9), .int (nI v)])).length) Slot.unset).toArray = ls at hl ⊢
  have hl : lv_has ls 5 [(0, .ref lo), (1, .int (nI i)), (2, .int (nI p9)), (3, .int (nI v))] := hl
  refine lv_aload_n hx hb dX5_insert_0 rfl (lv_at hl 0 rfl) ?_
  refine lv_iload_n hx hb dX5_insert_1 rfl (lv_at hl 1 rfl) ?_
  refine ro_V (As := [.int (nI i)]) (rest := []) (wc := [(lo, .inr (2, [.ref ra, .ref d0, .ref b0, .ref t0, .ref r0])), (ra, .inl (T 2, 6, .inr (.inr (.inr (.inr (fun j => some (rd j)))))))]) (r := .ref (rd i)) ⟨hx, hb, hml, hown, hts⟩ (c_X5_rowAt l D T g lo ra d0 b0 t0 r0 rd i hi) (cwV 1 hts gX5_insert_X5_rowAt rfl rfl rfl (by decide +kernel) ⟨Nat.le_of_ble_eq_true rfl, Nat.le_of_ble_eq_true rfl⟩) (va_recv hK hP (ci := 2) (q0 := 0) rfl rfl) hP hK hG hS [0, 1] rfl ⟨Nat.zero_le _, Nat.zero_le _⟩ rfl hl.1 (Nat.le_of_ble_eq_true rfl) dX5_insert_2 rfl ?_
  refine lv_astore (lv' := [(4, .ref (rd i)), (0, .ref lo), (1, .int (nI i)), (2, .int (nI p9)), (3, .int (nI v))]) hx hb dX5_insert_5 hl (by decide) rfl (fun ls hl => ?_)
  refine lv_iload_n hx hb dX5_insert_7 rfl (lv_at hl 3 rfl) ?_
  refine lv_aload hx hb dX5_insert_8 (lv_at hl 0 rfl) ?_
  refine va_getN (D := D) (ci := 0) (v := .int (nI n)) (C := RX2) (T := TX2) (N := 2) hx hb hts hi_X2 hown hK hP 2 rfl rfl 1 (by decide) (nx0 hG) (fun _ h9 => h9) rfl dX5_insert_10 ?_
  refine lv_iconst (v := (nI 1)) hx hb dX5_insert_13 (by decide +kernel) ?_
  refine ln_add hx hb dX5_insert_14 ?_
  refine rv_S (As := [.int (nI p9), .int (nI (n + 1))]) (rest := []) (wc := []) ⟨hx, hb, hml, hown, hts⟩ (c_X5_checkPlace l D T g p9 (n + 1) (by omega)) (va_cwS 2 hts gX5_insert_X5_checkPlace rfl rfl rfl (by decide +kernel) ⟨Nat.le_of_ble_eq_true rfl, Nat.le_of_ble_eq_true rfl⟩) hP hK hG hS [] rfl ⟨Nat.zero_le _, Nat.zero_le _⟩ rfl hl.1 (Nat.le_of_ble_eq_true rfl) dX5_insert_15 rfl ?_
  refine lv_iload_n hx hb dX5_insert_18 rfl (lv_at hl 4 rfl) ?_
  refine rv_S (As := [.int (nI v)]) (rest := []) (wc := []) ⟨hx, hb, hml, hown, hts⟩ (c_X5_checkByte l D T g v hv9) (va_cwS 1 hts gX5_insert_X5_checkByte rfl rfl rfl (by decide +kernel) ⟨Nat.le_of_ble_eq_true rfl, Nat.le_of_ble_eq_true rfl⟩) hP hK hG hS [] rfl ⟨Nat.zero_le _, Nat.zero_le _⟩ rfl hl.1 (Nat.le_of_ble_eq_true rfl) dX5_insert_19 rfl ?_
  refine lv_aload hx hb dX5_insert_22 (lv_at hl 0 rfl) ?_
  refine va_getN (D := D) (ci := 0) (v := .int (nI n)) (C := RX2) (T := TX2) (N := 2) hx hb hts hi_X2 hown hK hP 2 rfl rfl 1 (by decide) (nx0 hG) (fun _ h9 => h9) rfl dX5_insert_24 ?_
  refine lv_iconst (v := (nI 1)) hx hb dX5_insert_27 (by decide +kernel) ?_
  refine ln_add hx hb dX5_insert_28 ?_
  refine rv_S (As := [.int (nI (n + 1))]) (rest := []) (wc := []) ⟨hx, hb, hml, hown, hts⟩ (c_X5_checkRoom l D T g (n + 1) (by omega)) (va_cwS 1 hts gX5_insert_X5_checkRoom rfl rfl rfl (by decide +kernel) ⟨Nat.le_of_ble_eq_true rfl, Nat.le_of_ble_eq_true rfl⟩) hP hK hG hS [] rfl ⟨Nat.zero_le _, Nat.zero_le _⟩ rfl hl.1 (Nat.le_of_ble_eq_true rfl) dX5_insert_29 rfl ?_
  refine lv_aload hx hb dX5_insert_32 (lv_at hl 0 rfl) ?_
  refine lv_iload_n hx hb dX5_insert_34 rfl (lv_at hl 3 rfl) ?_
  refine lv_iload_n hx hb dX5_insert_35 rfl (lv_at hl 4 rfl) ?_
  refine mu_V (As := [.int (nI p9), .int (nI v)]) (rest := []) (wc := [(rd i, .inr (0, [.ref q0, .int (nI n)])), (q0, .inl (T 0, 440, .inl f))]) (wr := [(lo, .inr (2, [.ref ra, .ref d0, .ref b0, .ref t0, .ref r0])), (ra, .inl (T 2, 6, .inr (.inr (.inr (.inr (fun j => some (rd j)))))))]) ⟨hx, hb, hml, hown, hts⟩ (c_X2_squeezeIn l D T g s.heap.size (rd i) q0 f n p9 v b (hb9) (by omega) hv9) (cwV 2 hts gX5_insert_X2_squeezeIn rfl rfl rfl (by decide +kernel) ⟨Nat.le_of_ble_eq_true rfl, Nat.le_of_ble_eq_true rfl⟩) (va_recv hK hP (ci := 0) (q0 := 2) rfl rfl) hP hD hK hG hS hA [2, 3] [0, 1] rfl (by decide) rfl (by decide) (by decide) ⟨Nat.le_of_ble_eq_true rfl, Nat.le_of_ble_eq_true rfl⟩ rfl hl.1 (Nat.le_of_ble_eq_true rfl) dX5_insert_36 rfl (fun u H locs hq2 hP hD hS => ?_)
  obtain ⟨F_1, hu9⟩ : ∃ z, z = u := ⟨_, rfl⟩
  subst hu9
  have hP : va_P D cls [(lo, .inr (2, [.ref ra, .ref d0, .ref b0, .ref t0, .ref r0])), (ra, .inl (T 2, 6, .inr (.inr (.inr (.inr (fun j => some (rd j))))))), ((rd i), .inr (0, [.ref q0, .int (nI (n + 1))])), (q0, .inl (T 0, 440, .inl F_1))] H := hP
  have hD : va_D A [(lo, .inr (2, [.ref ra, .ref d0, .ref b0, .ref t0, .ref r0])), (ra, .inl (T 2, 6, .inr (.inr (.inr (.inr (fun j => some (rd j))))))), ((rd i), .inr (0, [.ref q0, .int (nI (n + 1))])), (q0, .inl (T 0, 440, .inl F_1))] := hD
  have hq2 : RB F_1 (n + 1) (insN b p9 v) := hq2
  refine W.eq (g2 := F0 m 39 ls []) rfl ?_
  refine lv_aload hx hb dX5_insert_39 (lv_at hl 0 rfl) ?_
  refine va_getN (D := D) (ci := 0) (v := .int (nI (n + 1))) (C := RX2) (T := TX2) (N := 2) hx hb hts hi_X2 hown hK hP 2 rfl rfl 1 (by decide) (nx0 hG) (fun _ h9 => h9) rfl dX5_insert_41 ?_
  have hP9 := hP.sub (ws' := [(lo, .inr (2, [.ref ra, .ref d0, .ref b0, .ref t0, .ref r0])), (ra, .inl (T 2, 6, .inr (.inr (.inr (.inr (fun j => some (rd j))))))), ((rd i), .inr (0, [.ref q0, .int (nI (n + 1))])), (q0, .inl (T 0, 440, .inl F_1))]) [0, 1, 2, 3] rfl
  have hD9 := hD.sub (ws' := [(lo, .inr (2, [.ref ra, .ref d0, .ref b0, .ref t0, .ref r0])), (ra, .inl (T 2, 6, .inr (.inr (.inr (.inr (fun j => some (rd j))))))), ((rd i), .inr (0, [.ref q0, .int (nI (n + 1))])), (q0, .inl (T 0, 440, .inl F_1))]) [0, 1, 2, 3] (by decide) rfl
  exact W.iret (v := (nI (n + 1))) hx hb hr (fun t ht hW => ⟨⟨F_1, rfl, hq2, (by rw [ht]; exact hP9), va_K.moved hW.alike hK, hD9⟩, hS.F ht⟩) hS.2.2 dX5_insert_44
set_option maxHeartbeats 4000000 in
set_option maxRecDepth 100000 in
theorem c_insert_x2 (l : Launch) (D : va_G) (T : Nat → ClassId) (g : Nat → Nat) (sz : Nat) (hl9 : l.stackTraces = false) (lo : Nat) (ra : Nat) (d0 : Nat) (b0 : Nat) (t0 : Nat) (r0 : Nat) (rd : Nat → Nat) (i : Nat) (q0 : Nat) (f : Nat → Int32) (n : Nat) (hi : i < 6) (p9 : Int32) (v : Int32) (hp : p9 < 0 ∨ ¬ p9 < nI (n + 1)) : TX l yX5_insert wsX5_insert ({ frames := 7, cells := 1, slots := 6, locals := 111 } : Room) D T g [.ref lo, .int (nI i), .int p9, .int v] [(lo, .inr (2, [.ref ra, .ref d0, .ref b0, .ref t0, .ref r0])), (ra, .inl (T 2, 6, .inr (.inr (.inr (.inr (fun j => some (rd j))))))), (rd i, .inr (0, [.ref q0, .int (nI n)])), (q0, .inl (T 0, 440, .inl f))] sz "java/lang/IndexOutOfBoundsException" (fun u : Unit => True) (fun u : Unit => [(lo, .inr (2, [.ref ra, .ref d0, .ref b0, .ref t0, .ref r0])), (ra, .inl (T 2, 6, .inr (.inr (.inr (.inr (fun j => some (rd j))))))), (rd i, .inr (0, [.ref q0, .int (nI n)])), (q0, .inl (T 0, 440, .inl f))]) 1 6 := by
  refine vx_ofW (cc := cX5_insert) (maxL := 5) (ret := (some .int)) (by decide) rfl ?_
  intro p e s m args below meth c s₁ B hml ht hv
  obtain ⟨rfl, hsz, hP, hK, hD0, hG⟩ := hv
  have hx := B.exec
  have hb := B.bytes
  have hr := B.returns
  have hts := atoms_spec (ws := wsX5_insert) B.pre
  have hown : s.vm.findClass RX5 = some m.cls := findClass_of_methodNamed B.named
  have hlocks := B.notSynchronized
  have hi_X2 : ∀ w ∈ wsX20, w ∈ wsX5_insert := by decide +kernel
  subst hsz
  have hD := hD0.self (sz := s.heap.size)
  generalize hAe : va_A [(lo, .inr (2, [.ref ra, .ref d0, .ref b0, .ref t0, .ref r0])), (ra, .inl (T 2, 6, .inr (.inr (.inr (.inr (fun j => some (rd j))))))), (rd i, .inr (0, [.ref q0, .int (nI n)])), (q0, .inl (T 0, 440, .inl f))] s.heap.size = A at hD hG ⊢
  have hA : ∀ q : Nat, s.heap.size ≤ q → A q := fun q h => by rw [← hAe]; exact Or.inr h
  have hS : va_S A s.heap s.heap [] := va_S.rf
  have hP : va_P D cls [(lo, .inr (2, [.ref ra, .ref d0, .ref b0, .ref t0, .ref r0])), (ra, .inl (T 2, 6, .inr (.inr (.inr (.inr (fun j => some (rd j))))))), (rd i, .inr (0, [.ref q0, .int (nI n)])), (q0, .inl (T 0, 440, .inl f))] s.heap := hP
  have hl := lv_entry ([.ref lo, .int (nI i), .int p9, .int v]) (n := 5) (Nat.le_of_ble_eq_true rfl)
  rw [lg_entry_eq]
  generalize (lg_sl ([.ref lo, .int (nI i), .int p9, .int v]) ++ List.replicate (5 - (lg_sl ([.ref lo, .int (nI i), .int p9, .int v])).length) Slot.unset).toArray = ls at hl ⊢
  have hl : lv_has ls 5 [(0, .ref lo), (1, .int (nI i)), (2, .int p9), (3, .int v)] := hl
  refine lv_aload_n hx hb dX5_insert_0 rfl (lv_at hl 0 rfl) ?_
  refine lv_iload_n hx hb dX5_insert_1 rfl (lv_at hl 1 rfl) ?_
  refine ro_V (As := [.int (nI i)]) (rest := []) (wc := [(lo, .inr (2, [.ref ra, .ref d0, .ref b0, .ref t0, .ref r0])), (ra, .inl (T 2, 6, .inr (.inr (.inr (.inr (fun j => some (rd j)))))))]) (r := .ref (rd i)) ⟨hx, hb, hml, hown, hts⟩ (c_X5_rowAt l D T g lo ra d0 b0 t0 r0 rd i hi) (cwV 1 hts gX5_insert_X5_rowAt rfl rfl rfl (by decide +kernel) ⟨Nat.le_of_ble_eq_true rfl, Nat.le_of_ble_eq_true rfl⟩) (va_recv hK hP (ci := 2) (q0 := 0) rfl rfl) hP hK hG hS [0, 1] rfl ⟨Nat.zero_le _, Nat.zero_le _⟩ rfl hl.1 (Nat.le_of_ble_eq_true rfl) dX5_insert_2 rfl ?_
  refine lv_astore (lv' := [(4, .ref (rd i)), (0, .ref lo), (1, .int (nI i)), (2, .int p9), (3, .int v)]) hx hb dX5_insert_5 hl (by decide) rfl (fun ls hl => ?_)
  refine lv_iload_n hx hb dX5_insert_7 rfl (lv_at hl 3 rfl) ?_
  refine lv_aload hx hb dX5_insert_8 (lv_at hl 0 rfl) ?_
  refine va_getN (D := D) (ci := 0) (v := .int (nI n)) (C := RX2) (T := TX2) (N := 2) hx hb hts hi_X2 hown hK hP 2 rfl rfl 1 (by decide) (nx0 hG) (fun _ h9 => h9) rfl dX5_insert_10 ?_
  refine lv_iconst (v := (nI 1)) hx hb dX5_insert_13 (by decide +kernel) ?_
  refine ln_add hx hb dX5_insert_14 ?_
  refine tx_S (As := [.int p9, .int (nI (n + 1))]) (rest := []) (wc := []) (wr := [(lo, .inr (2, [.ref ra, .ref d0, .ref b0, .ref t0, .ref r0])), (ra, .inl (T 2, 6, .inr (.inr (.inr (.inr (fun j => some (rd j))))))), (rd i, .inr (0, [.ref q0, .int (nI n)])), (q0, .inl (T 0, 440, .inl f))]) ⟨hx, hb, hml, hown, hts⟩ (c_X5_checkPlace_x l D T g s.heap.size hl9 p9 (n + 1) hp) (va_cwS 2 hts gX5_insert_X5_checkPlace rfl rfl rfl (by decide +kernel) ⟨Nat.le_of_ble_eq_true rfl, Nat.le_of_ble_eq_true rfl⟩) hP hD hK hG hS hA [] [0, 1, 2, 3] rfl (by decide) rfl (by decide) (by decide) ⟨Nat.le_of_ble_eq_true rfl, Nat.le_of_ble_eq_true rfl⟩ rfl hl.1 (Nat.le_of_ble_eq_true rfl) dX5_insert_15 rfl ht hlocks (fun u t hal hq1 hP hD hFF => ?_) (Nat.le_of_ble_eq_true rfl) (Nat.le_of_ble_eq_true rfl)
  have hP : va_P D cls [(lo, .inr (2, [.ref ra, .ref d0, .ref b0, .ref t0, .ref r0])), (ra, .inl (T 2, 6, .inr (.inr (.inr (.inr (fun j => some (rd j))))))), (rd i, .inr (0, [.ref q0, .int (nI n)])), (q0, .inl (T 0, 440, .inl f))] t.heap := hP
  have hD : va_D A [(lo, .inr (2, [.ref ra, .ref d0, .ref b0, .ref t0, .ref r0])), (ra, .inl (T 2, 6, .inr (.inr (.inr (.inr (fun j => some (rd j))))))), (rd i, .inr (0, [.ref q0, .int (nI n)])), (q0, .inl (T 0, 440, .inl f))] := hD
  exact ⟨rfl, ⟨(), trivial, hP.sub (ws' := [(lo, .inr (2, [.ref ra, .ref d0, .ref b0, .ref t0, .ref r0])), (ra, .inl (T 2, 6, .inr (.inr (.inr (.inr (fun j => some (rd j))))))), (rd i, .inr (0, [.ref q0, .int (nI n)])), (q0, .inl (T 0, 440, .inl f))]) [0, 1, 2, 3] rfl, va_K.moved hal hK, hD.sub (ws' := [(lo, .inr (2, [.ref ra, .ref d0, .ref b0, .ref t0, .ref r0])), (ra, .inl (T 2, 6, .inr (.inr (.inr (.inr (fun j => some (rd j))))))), (rd i, .inr (0, [.ref q0, .int (nI n)])), (q0, .inl (T 0, 440, .inl f))]) [0, 1, 2, 3] (by decide) rfl⟩, hFF⟩
set_option maxHeartbeats 4000000 in
set_option maxRecDepth 100000 in
theorem c_insert_x3 (l : Launch) (D : va_G) (T : Nat → ClassId) (g : Nat → Nat) (sz : Nat) (hl9 : l.stackTraces = false) (lo : Nat) (ra : Nat) (d0 : Nat) (b0 : Nat) (t0 : Nat) (r0 : Nat) (rd : Nat → Nat) (i : Nat) (q0 : Nat) (f : Nat → Int32) (n : Nat) (hi : i < 6) (p9 : Nat) (v : Int32) (hp : p9 ≤ n ∧ n < 900) (hv9 : v < 0 ∨ ¬ v ≤ nI 255) : TX l yX5_insert wsX5_insert ({ frames := 7, cells := 1, slots := 6, locals := 110 } : Room) D T g [.ref lo, .int (nI i), .int (nI p9), .int v] [(lo, .inr (2, [.ref ra, .ref d0, .ref b0, .ref t0, .ref r0])), (ra, .inl (T 2, 6, .inr (.inr (.inr (.inr (fun j => some (rd j))))))), (rd i, .inr (0, [.ref q0, .int (nI n)])), (q0, .inl (T 0, 440, .inl f))] sz "java/lang/IllegalArgumentException" (fun u : Unit => True) (fun u : Unit => [(lo, .inr (2, [.ref ra, .ref d0, .ref b0, .ref t0, .ref r0])), (ra, .inl (T 2, 6, .inr (.inr (.inr (.inr (fun j => some (rd j))))))), (rd i, .inr (0, [.ref q0, .int (nI n)])), (q0, .inl (T 0, 440, .inl f))]) 1 6 := by
  refine vx_ofW (cc := cX5_insert) (maxL := 5) (ret := (some .int)) (by decide) rfl ?_
  intro p e s m args below meth c s₁ B hml ht hv
  obtain ⟨rfl, hsz, hP, hK, hD0, hG⟩ := hv
  have hx := B.exec
  have hb := B.bytes
  have hr := B.returns
  have hts := atoms_spec (ws := wsX5_insert) B.pre
  have hown : s.vm.findClass RX5 = some m.cls := findClass_of_methodNamed B.named
  have hlocks := B.notSynchronized
  have hi_X2 : ∀ w ∈ wsX20, w ∈ wsX5_insert := by decide +kernel
  subst hsz
  have hD := hD0.self (sz := s.heap.size)
  generalize hAe : va_A [(lo, .inr (2, [.ref ra, .ref d0, .ref b0, .ref t0, .ref r0])), (ra, .inl (T 2, 6, .inr (.inr (.inr (.inr (fun j => some (rd j))))))), (rd i, .inr (0, [.ref q0, .int (nI n)])), (q0, .inl (T 0, 440, .inl f))] s.heap.size = A at hD hG ⊢
  have hA : ∀ q : Nat, s.heap.size ≤ q → A q := fun q h => by rw [← hAe]; exact Or.inr h
  have hS : va_S A s.heap s.heap [] := va_S.rf
  have hP : va_P D cls [(lo, .inr (2, [.ref ra, .ref d0, .ref b0, .ref t0, .ref r0])), (ra, .inl (T 2, 6, .inr (.inr (.inr (.inr (fun j => some (rd j))))))), (rd i, .inr (0, [.ref q0, .int (nI n)])), (q0, .inl (T 0, 440, .inl f))] s.heap := hP
  have hl := lv_entry ([.ref lo, .int (nI i), .int (nI p9), .int v]) (n := 5) (Nat.le_of_ble_eq_true rfl)
  rw [lg_entry_eq]
  generalize (lg_sl ([.ref lo, .int (nI i), .int (nI p9), .int v]) ++ List.replicate (5 - (lg_sl ([.ref lo, .int (nI i), .int (nI p9), .int v])).length) Slot.unset).toArray = ls at hl ⊢
  have hl : lv_has ls 5 [(0, .ref lo), (1, .int (nI i)), (2, .int (nI p9)), (3, .int v)] := hl
  refine lv_aload_n hx hb dX5_insert_0 rfl (lv_at hl 0 rfl) ?_
  refine lv_iload_n hx hb dX5_insert_1 rfl (lv_at hl 1 rfl) ?_
  refine ro_V (As := [.int (nI i)]) (rest := []) (wc := [(lo, .inr (2, [.ref ra, .ref d0, .ref b0, .ref t0, .ref r0])), (ra, .inl (T 2, 6, .inr (.inr (.inr (.inr (fun j => some (rd j)))))))]) (r := .ref (rd i)) ⟨hx, hb, hml, hown, hts⟩ (c_X5_rowAt l D T g lo ra d0 b0 t0 r0 rd i hi) (cwV 1 hts gX5_insert_X5_rowAt rfl rfl rfl (by decide +kernel) ⟨Nat.le_of_ble_eq_true rfl, Nat.le_of_ble_eq_true rfl⟩) (va_recv hK hP (ci := 2) (q0 := 0) rfl rfl) hP hK hG hS [0, 1] rfl ⟨Nat.zero_le _, Nat.zero_le _⟩ rfl hl.1 (Nat.le_of_ble_eq_true rfl) dX5_insert_2 rfl ?_
  refine lv_astore (lv' := [(4, .ref (rd i)), (0, .ref lo), (1, .int (nI i)), (2, .int (nI p9)), (3, .int v)]) hx hb dX5_insert_5 hl (by decide) rfl (fun ls hl => ?_)
  refine lv_iload_n hx hb dX5_insert_7 rfl (lv_at hl 3 rfl) ?_
  refine lv_aload hx hb dX5_insert_8 (lv_at hl 0 rfl) ?_
  refine va_getN (D := D) (ci := 0) (v := .int (nI n)) (C := RX2) (T := TX2) (N := 2) hx hb hts hi_X2 hown hK hP 2 rfl rfl 1 (by decide) (nx0 hG) (fun _ h9 => h9) rfl dX5_insert_10 ?_
  refine lv_iconst (v := (nI 1)) hx hb dX5_insert_13 (by decide +kernel) ?_
  refine ln_add hx hb dX5_insert_14 ?_
  refine rv_S (As := [.int (nI p9), .int (nI (n + 1))]) (rest := []) (wc := []) ⟨hx, hb, hml, hown, hts⟩ (c_X5_checkPlace l D T g p9 (n + 1) (by omega)) (va_cwS 2 hts gX5_insert_X5_checkPlace rfl rfl rfl (by decide +kernel) ⟨Nat.le_of_ble_eq_true rfl, Nat.le_of_ble_eq_true rfl⟩) hP hK hG hS [] rfl ⟨Nat.zero_le _, Nat.zero_le _⟩ rfl hl.1 (Nat.le_of_ble_eq_true rfl) dX5_insert_15 rfl ?_
  refine lv_iload_n hx hb dX5_insert_18 rfl (lv_at hl 4 rfl) ?_
  refine tx_S (As := [.int v]) (rest := []) (wc := []) (wr := [(lo, .inr (2, [.ref ra, .ref d0, .ref b0, .ref t0, .ref r0])), (ra, .inl (T 2, 6, .inr (.inr (.inr (.inr (fun j => some (rd j))))))), (rd i, .inr (0, [.ref q0, .int (nI n)])), (q0, .inl (T 0, 440, .inl f))]) ⟨hx, hb, hml, hown, hts⟩ (c_X5_checkByte_x l D T g s.heap.size hl9 v hv9) (va_cwS 1 hts gX5_insert_X5_checkByte rfl rfl rfl (by decide +kernel) ⟨Nat.le_of_ble_eq_true rfl, Nat.le_of_ble_eq_true rfl⟩) hP hD hK hG hS hA [] [0, 1, 2, 3] rfl (by decide) rfl (by decide) (by decide) ⟨Nat.le_of_ble_eq_true rfl, Nat.le_of_ble_eq_true rfl⟩ rfl hl.1 (Nat.le_of_ble_eq_true rfl) dX5_insert_19 rfl ht hlocks (fun u t hal hq1 hP hD hFF => ?_) (Nat.le_of_ble_eq_true rfl) (Nat.le_of_ble_eq_true rfl)
  have hP : va_P D cls [(lo, .inr (2, [.ref ra, .ref d0, .ref b0, .ref t0, .ref r0])), (ra, .inl (T 2, 6, .inr (.inr (.inr (.inr (fun j => some (rd j))))))), (rd i, .inr (0, [.ref q0, .int (nI n)])), (q0, .inl (T 0, 440, .inl f))] t.heap := hP
  have hD : va_D A [(lo, .inr (2, [.ref ra, .ref d0, .ref b0, .ref t0, .ref r0])), (ra, .inl (T 2, 6, .inr (.inr (.inr (.inr (fun j => some (rd j))))))), (rd i, .inr (0, [.ref q0, .int (nI n)])), (q0, .inl (T 0, 440, .inl f))] := hD
  exact ⟨rfl, ⟨(), trivial, hP.sub (ws' := [(lo, .inr (2, [.ref ra, .ref d0, .ref b0, .ref t0, .ref r0])), (ra, .inl (T 2, 6, .inr (.inr (.inr (.inr (fun j => some (rd j))))))), (rd i, .inr (0, [.ref q0, .int (nI n)])), (q0, .inl (T 0, 440, .inl f))]) [0, 1, 2, 3] rfl, va_K.moved hal hK, hD.sub (ws' := [(lo, .inr (2, [.ref ra, .ref d0, .ref b0, .ref t0, .ref r0])), (ra, .inl (T 2, 6, .inr (.inr (.inr (.inr (fun j => some (rd j))))))), (rd i, .inr (0, [.ref q0, .int (nI n)])), (q0, .inl (T 0, 440, .inl f))]) [0, 1, 2, 3] (by decide) rfl⟩, hFF⟩
set_option maxHeartbeats 4000000 in
set_option maxRecDepth 100000 in
theorem c_insert_x4 (l : Launch) (D : va_G) (T : Nat → ClassId) (g : Nat → Nat) (sz : Nat) (hl9 : l.stackTraces = false) (lo : Nat) (ra : Nat) (d0 : Nat) (b0 : Nat) (t0 : Nat) (r0 : Nat) (rd : Nat → Nat) (i : Nat) (q0 : Nat) (f : Nat → Int32) (n : Nat) (hi : i < 6) (p9 : Nat) (v : Nat) (hp : p9 ≤ n ∧ n < 900) (hv9 : v < 256) (hn : 320 ≤ n) : TX l yX5_insert wsX5_insert ({ frames := 7, cells := 1, slots := 6, locals := 110 } : Room) D T g [.ref lo, .int (nI i), .int (nI p9), .int (nI v)] [(lo, .inr (2, [.ref ra, .ref d0, .ref b0, .ref t0, .ref r0])), (ra, .inl (T 2, 6, .inr (.inr (.inr (.inr (fun j => some (rd j))))))), (rd i, .inr (0, [.ref q0, .int (nI n)])), (q0, .inl (T 0, 440, .inl f))] sz "java/lang/IllegalStateException" (fun u : Unit => True) (fun u : Unit => [(lo, .inr (2, [.ref ra, .ref d0, .ref b0, .ref t0, .ref r0])), (ra, .inl (T 2, 6, .inr (.inr (.inr (.inr (fun j => some (rd j))))))), (rd i, .inr (0, [.ref q0, .int (nI n)])), (q0, .inl (T 0, 440, .inl f))]) 1 6 := by
  refine vx_ofW (cc := cX5_insert) (maxL := 5) (ret := (some .int)) (by decide) rfl ?_
  intro p e s m args below meth c s₁ B hml ht hv
  obtain ⟨rfl, hsz, hP, hK, hD0, hG⟩ := hv
  have hx := B.exec
  have hb := B.bytes
  have hr := B.returns
  have hts := atoms_spec (ws := wsX5_insert) B.pre
  have hown : s.vm.findClass RX5 = some m.cls := findClass_of_methodNamed B.named
  have hlocks := B.notSynchronized
  have hi_X2 : ∀ w ∈ wsX20, w ∈ wsX5_insert := by decide +kernel
  subst hsz
  have hD := hD0.self (sz := s.heap.size)
  generalize hAe : va_A [(lo, .inr (2, [.ref ra, .ref d0, .ref b0, .ref t0, .ref r0])), (ra, .inl (T 2, 6, .inr (.inr (.inr (.inr (fun j => some (rd j))))))), (rd i, .inr (0, [.ref q0, .int (nI n)])), (q0, .inl (T 0, 440, .inl f))] s.heap.size = A at hD hG ⊢
  have hA : ∀ q : Nat, s.heap.size ≤ q → A q := fun q h => by rw [← hAe]; exact Or.inr h
  have hS : va_S A s.heap s.heap [] := va_S.rf
  have hP : va_P D cls [(lo, .inr (2, [.ref ra, .ref d0, .ref b0, .ref t0, .ref r0])), (ra, .inl (T 2, 6, .inr (.inr (.inr (.inr (fun j => some (rd j))))))), (rd i, .inr (0, [.ref q0, .int (nI n)])), (q0, .inl (T 0, 440, .inl f))] s.heap := hP
  have hl := lv_entry ([.ref lo, .int (nI i), .int (nI p9), .int (nI v)]) (n := 5) (Nat.le_of_ble_eq_true rfl)
  rw [lg_entry_eq]
  generalize (lg_sl ([.ref lo, .int (nI i), .int (nI p9), .int (nI v)]) ++ List.replicate (5 - (lg_sl ([.ref lo, .int (nI i), .int (nI p9), .int (nI v)])).length) Slot.unset).toArray = ls at hl ⊢
  have hl : lv_has ls 5 [(0, .ref lo), (1, .int (nI i)), (2, .int (nI p9)), (3, .int (nI v))] := hl
  refine lv_aload_n hx hb dX5_insert_0 rfl (lv_at hl 0 rfl) ?_
  refine lv_iload_n hx hb dX5_insert_1 rfl (lv_at hl 1 rfl) ?_
  refine ro_V (As := [.int (nI i)]) (rest := []) (wc := [(lo, .inr (2, [.ref ra, .ref d0, .ref b0, .ref t0, .ref r0])), (ra, .inl (T 2, 6, .inr (.inr (.inr (.inr (fun j => some (rd j)))))))]) (r := .ref (rd i)) ⟨hx, hb, hml, hown, hts⟩ (c_X5_rowAt l D T g lo ra d0 b0 t0 r0 rd i hi) (cwV 1 hts gX5_insert_X5_rowAt rfl rfl rfl (by decide +kernel) ⟨Nat.le_of_ble_eq_true rfl, Nat.le_of_ble_eq_true rfl⟩) (va_recv hK hP (ci := 2) (q0 := 0) rfl rfl) hP hK hG hS [0, 1] rfl ⟨Nat.zero_le _, Nat.zero_le _⟩ rfl hl.1 (Nat.le_of_ble_eq_true rfl) dX5_insert_2 rfl ?_
  refine lv_astore (lv' := [(4, .ref (rd i)), (0, .ref lo), (1, .int (nI i)), (2, .int (nI p9)), (3, .int (nI v))]) hx hb dX5_insert_5 hl (by decide) rfl (fun ls hl => ?_)
  refine lv_iload_n hx hb dX5_insert_7 rfl (lv_at hl 3 rfl) ?_
  refine lv_aload hx hb dX5_insert_8 (lv_at hl 0 rfl) ?_
  refine va_getN (D := D) (ci := 0) (v := .int (nI n)) (C := RX2) (T := TX2) (N := 2) hx hb hts hi_X2 hown hK hP 2 rfl rfl 1 (by decide) (nx0 hG) (fun _ h9 => h9) rfl dX5_insert_10 ?_
  refine lv_iconst (v := (nI 1)) hx hb dX5_insert_13 (by decide +kernel) ?_
  refine ln_add hx hb dX5_insert_14 ?_
  refine rv_S (As := [.int (nI p9), .int (nI (n + 1))]) (rest := []) (wc := []) ⟨hx, hb, hml, hown, hts⟩ (c_X5_checkPlace l D T g p9 (n + 1) (by omega)) (va_cwS 2 hts gX5_insert_X5_checkPlace rfl rfl rfl (by decide +kernel) ⟨Nat.le_of_ble_eq_true rfl, Nat.le_of_ble_eq_true rfl⟩) hP hK hG hS [] rfl ⟨Nat.zero_le _, Nat.zero_le _⟩ rfl hl.1 (Nat.le_of_ble_eq_true rfl) dX5_insert_15 rfl ?_
  refine lv_iload_n hx hb dX5_insert_18 rfl (lv_at hl 4 rfl) ?_
  refine rv_S (As := [.int (nI v)]) (rest := []) (wc := []) ⟨hx, hb, hml, hown, hts⟩ (c_X5_checkByte l D T g v hv9) (va_cwS 1 hts gX5_insert_X5_checkByte rfl rfl rfl (by decide +kernel) ⟨Nat.le_of_ble_eq_true rfl, Nat.le_of_ble_eq_true rfl⟩) hP hK hG hS [] rfl ⟨Nat.zero_le _, Nat.zero_le _⟩ rfl hl.1 (Nat.le_of_ble_eq_true rfl) dX5_insert_19 rfl ?_
  refine lv_aload hx hb dX5_insert_22 (lv_at hl 0 rfl) ?_
  refine va_getN (D := D) (ci := 0) (v := .int (nI n)) (C := RX2) (T := TX2) (N := 2) hx hb hts hi_X2 hown hK hP 2 rfl rfl 1 (by decide) (nx0 hG) (fun _ h9 => h9) rfl dX5_insert_24 ?_
  refine lv_iconst (v := (nI 1)) hx hb dX5_insert_27 (by decide +kernel) ?_
  refine ln_add hx hb dX5_insert_28 ?_
  refine tx_S (As := [.int (nI (n + 1))]) (rest := []) (wc := []) (wr := [(lo, .inr (2, [.ref ra, .ref d0, .ref b0, .ref t0, .ref r0])), (ra, .inl (T 2, 6, .inr (.inr (.inr (.inr (fun j => some (rd j))))))), (rd i, .inr (0, [.ref q0, .int (nI n)])), (q0, .inl (T 0, 440, .inl f))]) ⟨hx, hb, hml, hown, hts⟩ (c_X5_checkRoom_x l D T g s.heap.size hl9 (n + 1) (by omega)) (va_cwS 1 hts gX5_insert_X5_checkRoom rfl rfl rfl (by decide +kernel) ⟨Nat.le_of_ble_eq_true rfl, Nat.le_of_ble_eq_true rfl⟩) hP hD hK hG hS hA [] [0, 1, 2, 3] rfl (by decide) rfl (by decide) (by decide) ⟨Nat.le_of_ble_eq_true rfl, Nat.le_of_ble_eq_true rfl⟩ rfl hl.1 (Nat.le_of_ble_eq_true rfl) dX5_insert_29 rfl ht hlocks (fun u t hal hq1 hP hD hFF => ?_) (Nat.le_of_ble_eq_true rfl) (Nat.le_of_ble_eq_true rfl)
  have hP : va_P D cls [(lo, .inr (2, [.ref ra, .ref d0, .ref b0, .ref t0, .ref r0])), (ra, .inl (T 2, 6, .inr (.inr (.inr (.inr (fun j => some (rd j))))))), (rd i, .inr (0, [.ref q0, .int (nI n)])), (q0, .inl (T 0, 440, .inl f))] t.heap := hP
  have hD : va_D A [(lo, .inr (2, [.ref ra, .ref d0, .ref b0, .ref t0, .ref r0])), (ra, .inl (T 2, 6, .inr (.inr (.inr (.inr (fun j => some (rd j))))))), (rd i, .inr (0, [.ref q0, .int (nI n)])), (q0, .inl (T 0, 440, .inl f))] := hD
  exact ⟨rfl, ⟨(), trivial, hP.sub (ws' := [(lo, .inr (2, [.ref ra, .ref d0, .ref b0, .ref t0, .ref r0])), (ra, .inl (T 2, 6, .inr (.inr (.inr (.inr (fun j => some (rd j))))))), (rd i, .inr (0, [.ref q0, .int (nI n)])), (q0, .inl (T 0, 440, .inl f))]) [0, 1, 2, 3] rfl, va_K.moved hal hK, hD.sub (ws' := [(lo, .inr (2, [.ref ra, .ref d0, .ref b0, .ref t0, .ref r0])), (ra, .inl (T 2, 6, .inr (.inr (.inr (.inr (fun j => some (rd j))))))), (rd i, .inr (0, [.ref q0, .int (nI n)])), (q0, .inl (T 0, 440, .inl f))]) [0, 1, 2, 3] (by decide) rfl⟩, hFF⟩
set_option maxHeartbeats 4000000 in
set_option maxRecDepth 100000 in
/-- remove: no such row -/
theorem c_remove_x1 (l : Launch) (D : va_G) (T : Nat → ClassId) (g : Nat → Nat) (sz : Nat) (hl9 : l.stackTraces = false) (lo : Nat) (ra : Nat) (d0 : Nat) (b0 : Nat) (t0 : Nat) (r0 : Nat) (rd : Nat → Nat) (i : Int32) (hi : i < 0 ∨ ¬ i < nI 6) (x0 : Int32) (x1 : Int32) : TX l yX5_remove wsX5_remove ({ frames := 7, cells := 1, slots := 6, locals := 111 } : Room) D T g [.ref lo, .int i, .int x0, .int x1] [(lo, .inr (2, [.ref ra, .ref d0, .ref b0, .ref t0, .ref r0])), (ra, .inl (T 2, 6, .inr (.inr (.inr (.inr (fun j => some (rd j)))))))] sz "java/lang/IndexOutOfBoundsException" (fun u : Unit => True) (fun u : Unit => [(lo, .inr (2, [.ref ra, .ref d0, .ref b0, .ref t0, .ref r0])), (ra, .inl (T 2, 6, .inr (.inr (.inr (.inr (fun j => some (rd j)))))))]) 1 6 := by
  refine vx_ofW (cc := cX5_remove) (maxL := 5) (ret := (some .int)) (by decide) rfl ?_
  intro p e s m args below meth c s₁ B hml ht hv
  obtain ⟨rfl, hsz, hP, hK, hD0, hG⟩ := hv
  have hx := B.exec
  have hb := B.bytes
  have hr := B.returns
  have hts := atoms_spec (ws := wsX5_remove) B.pre
  have hown : s.vm.findClass RX5 = some m.cls := findClass_of_methodNamed B.named
  have hlocks := B.notSynchronized
  subst hsz
  have hD := hD0.self (sz := s.heap.size)
  generalize hAe : va_A [(lo, .inr (2, [.ref ra, .ref d0, .ref b0, .ref t0, .ref r0])), (ra, .inl (T 2, 6, .inr (.inr (.inr (.inr (fun j => some (rd j)))))))] s.heap.size = A at hD hG ⊢
  have hA : ∀ q : Nat, s.heap.size ≤ q → A q := fun q h => by rw [← hAe]; exact Or.inr h
  have hS : va_S A s.heap s.heap [] := va_S.rf
  have hP : va_P D cls [(lo, .inr (2, [.ref ra, .ref d0, .ref b0, .ref t0, .ref r0])), (ra, .inl (T 2, 6, .inr (.inr (.inr (.inr (fun j => some (rd j)))))))] s.heap := hP
  have hl := lv_entry ([.ref lo, .int i, .int x0, .int x1]) (n := 5) (Nat.le_of_ble_eq_true rfl)
  rw [lg_entry_eq]
  generalize (lg_sl ([.ref lo, .int i, .int x0, .int x1]) ++ List.replicate (5 - (lg_sl ([.ref lo, .int i, .int x0, .int x1])).length) Slot.unset).toArray = ls at hl ⊢
  have hl : lv_has ls 5 [(0, .ref lo), (1, .int i), (2, .int x0), (3, .int x1)] := hl
  refine lv_aload_n hx hb dX5_remove_0 rfl (lv_at hl 0 rfl) ?_
  refine lv_iload_n hx hb dX5_remove_1 rfl (lv_at hl 1 rfl) ?_
  refine tx_V (As := [.int i]) (rest := []) (wc := [(lo, .inr (2, [.ref ra, .ref d0, .ref b0, .ref t0, .ref r0])), (ra, .inl (T 2, 6, .inr (.inr (.inr (.inr (fun j => some (rd j)))))))]) (wr := []) ⟨hx, hb, hml, hown, hts⟩ (c_X5_rowAt_x l D T g s.heap.size hl9 lo ra d0 b0 t0 r0 rd i hi) (cwV 1 hts gX5_remove_X5_rowAt rfl rfl rfl (by decide +kernel) ⟨Nat.le_of_ble_eq_true rfl, Nat.le_of_ble_eq_true rfl⟩) (va_recv hK hP (ci := 2) (q0 := 0) rfl rfl) hP hD hK hG hS hA [0, 1] [] rfl (by decide) rfl (by decide) (by decide) ⟨Nat.le_of_ble_eq_true rfl, Nat.le_of_ble_eq_true rfl⟩ rfl hl.1 (Nat.le_of_ble_eq_true rfl) dX5_remove_2 rfl ht hlocks (fun u t hal hq1 hP hD hFF => ?_) (Nat.le_of_ble_eq_true rfl) (Nat.le_of_ble_eq_true rfl)
  have hP : va_P D cls [(lo, .inr (2, [.ref ra, .ref d0, .ref b0, .ref t0, .ref r0])), (ra, .inl (T 2, 6, .inr (.inr (.inr (.inr (fun j => some (rd j)))))))] t.heap := hP
  have hD : va_D A [(lo, .inr (2, [.ref ra, .ref d0, .ref b0, .ref t0, .ref r0])), (ra, .inl (T 2, 6, .inr (.inr (.inr (.inr (fun j => some (rd j)))))))] := hD
  exact ⟨rfl, ⟨(), trivial, hP.sub (ws' := [(lo, .inr (2, [.ref ra, .ref d0, .ref b0, .ref t0, .ref r0])), (ra, .inl (T 2, 6, .inr (.inr (.inr (.inr (fun j => some (rd j)))))))]) [0, 1] rfl, va_K.moved hal hK, hD.sub (ws' := [(lo, .inr (2, [.ref ra, .ref d0, .ref b0, .ref t0, .ref r0])), (ra, .inl (T 2, 6, .inr (.inr (.inr (.inr (fun j => some (rd j)))))))]) [0, 1] (by decide) rfl⟩, hFF⟩
set_option maxHeartbeats 4000000 in
set_option maxRecDepth 100000 in
/-- remove -/
theorem c_remove (l : Launch) (D : va_G) (T : Nat → ClassId) (g : Nat → Nat) (sz : Nat) (lo : Nat) (ra : Nat) (d0 : Nat) (b0 : Nat) (t0 : Nat) (r0 : Nat) (rd : Nat → Nat) (i : Nat) (q0 : Nat) (f : Nat → Int32) (n : Nat) (b : Nat → Nat) (hb9 : RB f n b) (p9 : Nat) (m9 : Nat) (hi : i < 6) (hp : p9 + m9 ≤ n) : MU l yX5_remove wsX5_remove ({ frames := 2, cells := 0, slots := 0, locals := 45 } : Room) D T g [.ref lo, .int (nI i), .int (nI p9), .int (nI m9)] [(lo, .inr (2, [.ref ra, .ref d0, .ref b0, .ref t0, .ref r0])), (ra, .inl (T 2, 6, .inr (.inr (.inr (.inr (fun j => some (rd j))))))), (rd i, .inr (0, [.ref q0, .int (nI n)])), (q0, .inl (T 0, 440, .inl f))] sz (fun u : Nat → Int32 => some (.int (nI (n - m9)))) (fun u : Nat → Int32 => RB u (n - m9) (delN b p9 m9)) (fun u : Nat → Int32 => [(lo, .inr (2, [.ref ra, .ref d0, .ref b0, .ref t0, .ref r0])), (ra, .inl (T 2, 6, .inr (.inr (.inr (.inr (fun j => some (rd j))))))), (rd i, .inr (0, [.ref q0, .int (nI (n - m9))])), (q0, .inl (T 0, 440, .inl u))]) 0 0 := by
  refine Met.ofW (cc := cX5_remove) (maxL := 5) (ret := (some .int)) (by decide) rfl ?_
  intro p e s m args below meth c s₁ B hml hv
  obtain ⟨rfl, hsz, hP, hK, hD0, hG⟩ := hv
  have hx := B.exec
  have hb := B.bytes
  have hr := B.returns
  have hts := atoms_spec (ws := wsX5_remove) B.pre
  have hown : s.vm.findClass RX5 = some m.cls := findClass_of_methodNamed B.named
  have hlocks := B.notSynchronized
  have hi_X2 : ∀ w ∈ wsX20, w ∈ wsX5_remove := by decide +kernel
  subst hsz
  have hD := hD0.self (sz := s.heap.size)
  generalize hAe : va_A [(lo, .inr (2, [.ref ra, .ref d0, .ref b0, .ref t0, .ref r0])), (ra, .inl (T 2, 6, .inr (.inr (.inr (.inr (fun j => some (rd j))))))), (rd i, .inr (0, [.ref q0, .int (nI n)])), (q0, .inl (T 0, 440, .inl f))] s.heap.size = A at hD hG ⊢
  have hA : ∀ q : Nat, s.heap.size ≤ q → A q := fun q h => by rw [← hAe]; exact Or.inr h
  have hS : va_S A s.heap s.heap [] := va_S.rf
  have hP : va_P D cls [(lo, .inr (2, [.ref ra, .ref d0, .ref b0, .ref t0, .ref r0])), (ra, .inl (T 2, 6, .inr (.inr (.inr (.inr (fun j => some (rd j))))))), (rd i, .inr (0, [.ref q0, .int (nI n)])), (q0, .inl (T 0, 440, .inl f))] s.heap := hP
  have hl := lv_entry ([.ref lo, .int (nI i), .int (nI p9), .int (nI m9)]) (n := 5) (Nat.le_of_ble_eq_true rfl)
  rw [lg_entry_eq]
  generalize (lg_sl ([.ref lo, .int (nI i), .int (nI p9), .int (nI m9)]) ++ List.replicate (5 - (lg_sl ([.ref lo, .int (nI i), .int (nI p9), .int (nI m9)])).length) Slot.unset).toArray = ls at hl ⊢
  have hl : lv_has ls 5 [(0, .ref lo), (1, .int (nI i)), (2, .int (nI p9)), (3, .int (nI m9))] := hl
  have hn := hb9.1
  refine lv_aload_n hx hb dX5_remove_0 rfl (lv_at hl 0 rfl) ?_
  refine lv_iload_n hx hb dX5_remove_1 rfl (lv_at hl 1 rfl) ?_
  refine ro_V (As := [.int (nI i)]) (rest := []) (wc := [(lo, .inr (2, [.ref ra, .ref d0, .ref b0, .ref t0, .ref r0])), (ra, .inl (T 2, 6, .inr (.inr (.inr (.inr (fun j => some (rd j)))))))]) (r := .ref (rd i)) ⟨hx, hb, hml, hown, hts⟩ (c_X5_rowAt l D T g lo ra d0 b0 t0 r0 rd i hi) (cwV 1 hts gX5_remove_X5_rowAt rfl rfl rfl (by decide +kernel) ⟨Nat.le_of_ble_eq_true rfl, Nat.le_of_ble_eq_true rfl⟩) (va_recv hK hP (ci := 2) (q0 := 0) rfl rfl) hP hK hG hS [0, 1] rfl ⟨Nat.zero_le _, Nat.zero_le _⟩ rfl hl.1 (Nat.le_of_ble_eq_true rfl) dX5_remove_2 rfl ?_
  refine lv_astore (lv' := [(4, .ref (rd i)), (0, .ref lo), (1, .int (nI i)), (2, .int (nI p9)), (3, .int (nI m9))]) hx hb dX5_remove_5 hl (by decide) rfl (fun ls hl => ?_)
  refine lv_iload_n hx hb dX5_remove_7 rfl (lv_at hl 3 rfl) ?_
  refine ln_if_lt_f (tgt := 26) hx hb (by omega) dX5_remove_8 (by decide) ?_
  refine lv_iload_n hx hb dX5_remove_11 rfl (lv_at hl 4 rfl) ?_
  refine ln_if_lt_f (tgt := 26) hx hb (by omega) dX5_remove_12 (by decide) ?_
  refine lv_iload_n hx hb dX5_remove_15 rfl (lv_at hl 4 rfl) ?_
  refine lv_aload hx hb dX5_remove_16 (lv_at hl 0 rfl) ?_
  refine va_getN (D := D) (ci := 0) (v := .int (nI n)) (C := RX2) (T := TX2) (N := 2) hx hb hts hi_X2 hown hK hP 2 rfl rfl 1 (by decide) (nx0 hG) (fun _ h9 => h9) rfl dX5_remove_18 ?_
  refine lv_iload_n hx hb dX5_remove_21 rfl (lv_at hl 3 rfl) ?_
  refine ln_sub hx hb (by omega) dX5_remove_22 ?_
  refine ln_icmp_le_t (tgt := 36) hx hb ⟨by omega, by omega⟩ (by omega) dX5_remove_23 (by decide) ?_
  refine lv_aload hx hb dX5_remove_36 (lv_at hl 0 rfl) ?_
  refine lv_iload_n hx hb dX5_remove_38 rfl (lv_at hl 3 rfl) ?_
  refine lv_iload_n hx hb dX5_remove_39 rfl (lv_at hl 4 rfl) ?_
  refine mu_V (As := [.int (nI p9), .int (nI m9)]) (rest := []) (wc := [(rd i, .inr (0, [.ref q0, .int (nI n)])), (q0, .inl (T 0, 440, .inl f))]) (wr := [(lo, .inr (2, [.ref ra, .ref d0, .ref b0, .ref t0, .ref r0])), (ra, .inl (T 2, 6, .inr (.inr (.inr (.inr (fun j => some (rd j)))))))]) ⟨hx, hb, hml, hown, hts⟩ (c_X2_takeOut l D T g s.heap.size (rd i) q0 f n p9 m9 b (hb9) (by omega)) (cwV 2 hts gX5_remove_X2_takeOut rfl rfl rfl (by decide +kernel) ⟨Nat.le_of_ble_eq_true rfl, Nat.le_of_ble_eq_true rfl⟩) (va_recv hK hP (ci := 0) (q0 := 2) rfl rfl) hP hD hK hG hS hA [2, 3] [0, 1] rfl (by decide) rfl (by decide) (by decide) ⟨Nat.le_of_ble_eq_true rfl, Nat.le_of_ble_eq_true rfl⟩ rfl hl.1 (Nat.le_of_ble_eq_true rfl) dX5_remove_40 rfl (fun u H locs hq2 hP hD hS => ?_)
  obtain ⟨F_1, hu9⟩ : ∃ z, z = u := ⟨_, rfl⟩
  subst hu9
  have hP : va_P D cls [(lo, .inr (2, [.ref ra, .ref d0, .ref b0, .ref t0, .ref r0])), (ra, .inl (T 2, 6, .inr (.inr (.inr (.inr (fun j => some (rd j))))))), ((rd i), .inr (0, [.ref q0, .int (nI (n - m9))])), (q0, .inl (T 0, 440, .inl F_1))] H := hP
  have hD : va_D A [(lo, .inr (2, [.ref ra, .ref d0, .ref b0, .ref t0, .ref r0])), (ra, .inl (T 2, 6, .inr (.inr (.inr (.inr (fun j => some (rd j))))))), ((rd i), .inr (0, [.ref q0, .int (nI (n - m9))])), (q0, .inl (T 0, 440, .inl F_1))] := hD
  have hq2 : RB F_1 (n - m9) (delN b p9 m9) := hq2
  refine W.eq (g2 := F0 m 43 ls []) rfl ?_
  refine lv_aload hx hb dX5_remove_43 (lv_at hl 0 rfl) ?_
  refine va_getN (D := D) (ci := 0) (v := .int (nI (n - m9))) (C := RX2) (T := TX2) (N := 2) hx hb hts hi_X2 hown hK hP 2 rfl rfl 1 (by decide) (nx0 hG) (fun _ h9 => h9) rfl dX5_remove_45 ?_
  have hP9 := hP.sub (ws' := [(lo, .inr (2, [.ref ra, .ref d0, .ref b0, .ref t0, .ref r0])), (ra, .inl (T 2, 6, .inr (.inr (.inr (.inr (fun j => some (rd j))))))), ((rd i), .inr (0, [.ref q0, .int (nI (n - m9))])), (q0, .inl (T 0, 440, .inl F_1))]) [0, 1, 2, 3] rfl
  have hD9 := hD.sub (ws' := [(lo, .inr (2, [.ref ra, .ref d0, .ref b0, .ref t0, .ref r0])), (ra, .inl (T 2, 6, .inr (.inr (.inr (.inr (fun j => some (rd j))))))), ((rd i), .inr (0, [.ref q0, .int (nI (n - m9))])), (q0, .inl (T 0, 440, .inl F_1))]) [0, 1, 2, 3] (by decide) rfl
  exact W.iret (v := (nI (n - m9))) hx hb hr (fun t ht hW => ⟨⟨F_1, rfl, hq2, (by rw [ht]; exact hP9), va_K.moved hW.alike hK, hD9⟩, hS.F ht⟩) hS.2.2 dX5_remove_48
set_option maxHeartbeats 4000000 in
set_option maxRecDepth 100000 in
theorem c_remove_x2 (l : Launch) (D : va_G) (T : Nat → ClassId) (g : Nat → Nat) (sz : Nat) (hl9 : l.stackTraces = false) (lo : Nat) (ra : Nat) (d0 : Nat) (b0 : Nat) (t0 : Nat) (r0 : Nat) (rd : Nat → Nat) (i : Nat) (q0 : Nat) (f : Nat → Int32) (n : Nat) (hi : i < 6) (p9 : Int32) (m9 : Int32) (hp : p9 < 0 ∨ m9 < 0 ∨ ¬ m9 ≤ nI n - p9) : TX l yX5_remove wsX5_remove ({ frames := 6, cells := 1, slots := 6, locals := 90 } : Room) D T g [.ref lo, .int (nI i), .int p9, .int m9] [(lo, .inr (2, [.ref ra, .ref d0, .ref b0, .ref t0, .ref r0])), (ra, .inl (T 2, 6, .inr (.inr (.inr (.inr (fun j => some (rd j))))))), (rd i, .inr (0, [.ref q0, .int (nI n)])), (q0, .inl (T 0, 440, .inl f))] sz "java/lang/IndexOutOfBoundsException" (fun u : Unit => True) (fun u : Unit => [(lo, .inr (2, [.ref ra, .ref d0, .ref b0, .ref t0, .ref r0])), (ra, .inl (T 2, 6, .inr (.inr (.inr (.inr (fun j => some (rd j))))))), (rd i, .inr (0, [.ref q0, .int (nI n)])), (q0, .inl (T 0, 440, .inl f))]) 1 6 := by
  refine vx_ofW (cc := cX5_remove) (maxL := 5) (ret := (some .int)) (by decide) rfl ?_
  intro p e s m args below meth c s₁ B hml ht hv
  obtain ⟨rfl, hsz, hP, hK, hD0, hG⟩ := hv
  have hx := B.exec
  have hb := B.bytes
  have hr := B.returns
  have hts := atoms_spec (ws := wsX5_remove) B.pre
  have hown : s.vm.findClass RX5 = some m.cls := findClass_of_methodNamed B.named
  have hlocks := B.notSynchronized
  have hi_X2 : ∀ w ∈ wsX20, w ∈ wsX5_remove := by decide +kernel
  subst hsz
  have hD := hD0.self (sz := s.heap.size)
  generalize hAe : va_A [(lo, .inr (2, [.ref ra, .ref d0, .ref b0, .ref t0, .ref r0])), (ra, .inl (T 2, 6, .inr (.inr (.inr (.inr (fun j => some (rd j))))))), (rd i, .inr (0, [.ref q0, .int (nI n)])), (q0, .inl (T 0, 440, .inl f))] s.heap.size = A at hD hG ⊢
  have hA : ∀ q : Nat, s.heap.size ≤ q → A q := fun q h => by rw [← hAe]; exact Or.inr h
  have hS : va_S A s.heap s.heap [] := va_S.rf
  have hP : va_P D cls [(lo, .inr (2, [.ref ra, .ref d0, .ref b0, .ref t0, .ref r0])), (ra, .inl (T 2, 6, .inr (.inr (.inr (.inr (fun j => some (rd j))))))), (rd i, .inr (0, [.ref q0, .int (nI n)])), (q0, .inl (T 0, 440, .inl f))] s.heap := hP
  have hl := lv_entry ([.ref lo, .int (nI i), .int p9, .int m9]) (n := 5) (Nat.le_of_ble_eq_true rfl)
  rw [lg_entry_eq]
  generalize (lg_sl ([.ref lo, .int (nI i), .int p9, .int m9]) ++ List.replicate (5 - (lg_sl ([.ref lo, .int (nI i), .int p9, .int m9])).length) Slot.unset).toArray = ls at hl ⊢
  have hl : lv_has ls 5 [(0, .ref lo), (1, .int (nI i)), (2, .int p9), (3, .int m9)] := hl
  refine lv_aload_n hx hb dX5_remove_0 rfl (lv_at hl 0 rfl) ?_
  refine lv_iload_n hx hb dX5_remove_1 rfl (lv_at hl 1 rfl) ?_
  refine ro_V (As := [.int (nI i)]) (rest := []) (wc := [(lo, .inr (2, [.ref ra, .ref d0, .ref b0, .ref t0, .ref r0])), (ra, .inl (T 2, 6, .inr (.inr (.inr (.inr (fun j => some (rd j)))))))]) (r := .ref (rd i)) ⟨hx, hb, hml, hown, hts⟩ (c_X5_rowAt l D T g lo ra d0 b0 t0 r0 rd i hi) (cwV 1 hts gX5_remove_X5_rowAt rfl rfl rfl (by decide +kernel) ⟨Nat.le_of_ble_eq_true rfl, Nat.le_of_ble_eq_true rfl⟩) (va_recv hK hP (ci := 2) (q0 := 0) rfl rfl) hP hK hG hS [0, 1] rfl ⟨Nat.zero_le _, Nat.zero_le _⟩ rfl hl.1 (Nat.le_of_ble_eq_true rfl) dX5_remove_2 rfl ?_
  refine lv_astore (lv' := [(4, .ref (rd i)), (0, .ref lo), (1, .int (nI i)), (2, .int p9), (3, .int m9)]) hx hb dX5_remove_5 hl (by decide) rfl (fun ls hl => ?_)
  refine lv_iload_n hx hb dX5_remove_7 rfl (lv_at hl 3 rfl) ?_
  refine lv_if_lt (tgt := 26) hx hb dX5_remove_8 (by decide) (fun c_8 => ?_) (fun c_8 => ?_)
  · refine tx_throw (T := T) (D := D) (g := g) (text := "there are not so many bytes there") (is := 84) (ik := 82) (ic := 86) (E := "java/lang/IndexOutOfBoundsException") (ws := [(lo, .inr (2, [.ref ra, .ref d0, .ref b0, .ref t0, .ref r0])), (ra, .inl (T 2, 6, .inr (.inr (.inr (.inr (fun j => some (rd j))))))), (rd i, .inr (0, [.ref q0, .int (nI n)])), (q0, .inl (T 0, 440, .inl f))]) hl9 hx hb hown hts (by decide) (List.mem_of_getElem? (i := 1) rfl) (List.mem_of_getElem? (i := 2) rfl) (fun _ h => List.mem_cons_of_mem _ (List.mem_append_left _ (List.mem_append_right _ h))) (by decide) hP hD hK hG hS (hl.1.trans hml.symm) dX5_remove_26 dX5_remove_29 dX5_remove_30 dX5_remove_32 dX5_remove_35 ht (Nat.le_of_ble_eq_true rfl) (Nat.le_of_ble_eq_true rfl) (Nat.le_of_ble_eq_true rfl) (Nat.le_of_ble_eq_true rfl) hlocks (fun t hMA hFF => ?_) (Nat.le_of_ble_eq_true rfl) (Nat.le_of_ble_eq_true rfl)
    obtain ⟨hP, hK9, hD⟩ := hMA
    exact ⟨rfl, ⟨(), trivial, hP.sub (ws' := [(lo, .inr (2, [.ref ra, .ref d0, .ref b0, .ref t0, .ref r0])), (ra, .inl (T 2, 6, .inr (.inr (.inr (.inr (fun j => some (rd j))))))), (rd i, .inr (0, [.ref q0, .int (nI n)])), (q0, .inl (T 0, 440, .inl f))]) [0, 1, 2, 3] rfl, hK9, hD.sub (ws' := [(lo, .inr (2, [.ref ra, .ref d0, .ref b0, .ref t0, .ref r0])), (ra, .inl (T 2, 6, .inr (.inr (.inr (.inr (fun j => some (rd j))))))), (rd i, .inr (0, [.ref q0, .int (nI n)])), (q0, .inl (T 0, 440, .inl f))]) [0, 1, 2, 3] (by decide) rfl⟩, hFF⟩
  · refine lv_iload_n hx hb dX5_remove_11 rfl (lv_at hl 4 rfl) ?_
    refine lv_if_lt (tgt := 26) hx hb dX5_remove_12 (by decide) (fun c_12 => ?_) (fun c_12 => ?_)
    · refine tx_throw (T := T) (D := D) (g := g) (text := "there are not so many bytes there") (is := 84) (ik := 82) (ic := 86) (E := "java/lang/IndexOutOfBoundsException") (ws := [(lo, .inr (2, [.ref ra, .ref d0, .ref b0, .ref t0, .ref r0])), (ra, .inl (T 2, 6, .inr (.inr (.inr (.inr (fun j => some (rd j))))))), (rd i, .inr (0, [.ref q0, .int (nI n)])), (q0, .inl (T 0, 440, .inl f))]) hl9 hx hb hown hts (by decide) (List.mem_of_getElem? (i := 1) rfl) (List.mem_of_getElem? (i := 2) rfl) (fun _ h => List.mem_cons_of_mem _ (List.mem_append_left _ (List.mem_append_right _ h))) (by decide) hP hD hK hG hS (hl.1.trans hml.symm) dX5_remove_26 dX5_remove_29 dX5_remove_30 dX5_remove_32 dX5_remove_35 ht (Nat.le_of_ble_eq_true rfl) (Nat.le_of_ble_eq_true rfl) (Nat.le_of_ble_eq_true rfl) (Nat.le_of_ble_eq_true rfl) hlocks (fun t hMA hFF => ?_) (Nat.le_of_ble_eq_true rfl) (Nat.le_of_ble_eq_true rfl)
      obtain ⟨hP, hK9, hD⟩ := hMA
      exact ⟨rfl, ⟨(), trivial, hP.sub (ws' := [(lo, .inr (2, [.ref ra, .ref d0, .ref b0, .ref t0, .ref r0])), (ra, .inl (T 2, 6, .inr (.inr (.inr (.inr (fun j => some (rd j))))))), (rd i, .inr (0, [.ref q0, .int (nI n)])), (q0, .inl (T 0, 440, .inl f))]) [0, 1, 2, 3] rfl, hK9, hD.sub (ws' := [(lo, .inr (2, [.ref ra, .ref d0, .ref b0, .ref t0, .ref r0])), (ra, .inl (T 2, 6, .inr (.inr (.inr (.inr (fun j => some (rd j))))))), (rd i, .inr (0, [.ref q0, .int (nI n)])), (q0, .inl (T 0, 440, .inl f))]) [0, 1, 2, 3] (by decide) rfl⟩, hFF⟩
    · refine lv_iload_n hx hb dX5_remove_15 rfl (lv_at hl 4 rfl) ?_
      refine lv_aload hx hb dX5_remove_16 (lv_at hl 0 rfl) ?_
      refine va_getN (D := D) (ci := 0) (v := .int (nI n)) (C := RX2) (T := TX2) (N := 2) hx hb hts hi_X2 hown hK hP 2 rfl rfl 1 (by decide) (nx0 hG) (fun _ h9 => h9) rfl dX5_remove_18 ?_
      refine lv_iload_n hx hb dX5_remove_21 rfl (lv_at hl 3 rfl) ?_
      refine lv_isub hx hb dX5_remove_22 ?_
      refine lv_icmp_le (tgt := 36) hx hb dX5_remove_23 (by decide) (fun q9 => absurd q9 (hp.elim (fun z => absurd z c_8) (fun z => z.elim (fun y => absurd y c_12) id))) (fun _ => ?_)
      refine tx_throw (T := T) (D := D) (g := g) (text := "there are not so many bytes there") (is := 84) (ik := 82) (ic := 86) (E := "java/lang/IndexOutOfBoundsException") (ws := [(lo, .inr (2, [.ref ra, .ref d0, .ref b0, .ref t0, .ref r0])), (ra, .inl (T 2, 6, .inr (.inr (.inr (.inr (fun j => some (rd j))))))), (rd i, .inr (0, [.ref q0, .int (nI n)])), (q0, .inl (T 0, 440, .inl f))]) hl9 hx hb hown hts (by decide) (List.mem_of_getElem? (i := 1) rfl) (List.mem_of_getElem? (i := 2) rfl) (fun _ h => List.mem_cons_of_mem _ (List.mem_append_left _ (List.mem_append_right _ h))) (by decide) hP hD hK hG hS (hl.1.trans hml.symm) dX5_remove_26 dX5_remove_29 dX5_remove_30 dX5_remove_32 dX5_remove_35 ht (Nat.le_of_ble_eq_true rfl) (Nat.le_of_ble_eq_true rfl) (Nat.le_of_ble_eq_true rfl) (Nat.le_of_ble_eq_true rfl) hlocks (fun t hMA hFF => ?_) (Nat.le_of_ble_eq_true rfl) (Nat.le_of_ble_eq_true rfl)
      obtain ⟨hP, hK9, hD⟩ := hMA
      exact ⟨rfl, ⟨(), trivial, hP.sub (ws' := [(lo, .inr (2, [.ref ra, .ref d0, .ref b0, .ref t0, .ref r0])), (ra, .inl (T 2, 6, .inr (.inr (.inr (.inr (fun j => some (rd j))))))), (rd i, .inr (0, [.ref q0, .int (nI n)])), (q0, .inl (T 0, 440, .inl f))]) [0, 1, 2, 3] rfl, hK9, hD.sub (ws' := [(lo, .inr (2, [.ref ra, .ref d0, .ref b0, .ref t0, .ref r0])), (ra, .inl (T 2, 6, .inr (.inr (.inr (.inr (fun j => some (rd j))))))), (rd i, .inr (0, [.ref q0, .int (nI n)])), (q0, .inl (T 0, 440, .inl f))]) [0, 1, 2, 3] (by decide) rfl⟩, hFF⟩
set_option maxHeartbeats 4000000 in
set_option maxRecDepth 100000 in
/-- length: no such row -/
theorem c_length_x1 (l : Launch) (D : va_G) (T : Nat → ClassId) (g : Nat → Nat) (sz : Nat) (hl9 : l.stackTraces = false) (lo : Nat) (ra : Nat) (d0 : Nat) (b0 : Nat) (t0 : Nat) (r0 : Nat) (rd : Nat → Nat) (i : Int32) (hi : i < 0 ∨ ¬ i < nI 6) : TX l yX5_length wsX5_length ({ frames := 7, cells := 1, slots := 6, locals := 111 } : Room) D T g [.ref lo, .int i] [(lo, .inr (2, [.ref ra, .ref d0, .ref b0, .ref t0, .ref r0])), (ra, .inl (T 2, 6, .inr (.inr (.inr (.inr (fun j => some (rd j)))))))] sz "java/lang/IndexOutOfBoundsException" (fun u : Unit => True) (fun u : Unit => [(lo, .inr (2, [.ref ra, .ref d0, .ref b0, .ref t0, .ref r0])), (ra, .inl (T 2, 6, .inr (.inr (.inr (.inr (fun j => some (rd j)))))))]) 1 6 := by
  refine vx_ofW (cc := cX5_length) (maxL := 2) (ret := (some .int)) (by decide) rfl ?_
  intro p e s m args below meth c s₁ B hml ht hv
  obtain ⟨rfl, hsz, hP, hK, hD0, hG⟩ := hv
  have hx := B.exec
  have hb := B.bytes
  have hr := B.returns
  have hts := atoms_spec (ws := wsX5_length) B.pre
  have hown : s.vm.findClass RX5 = some m.cls := findClass_of_methodNamed B.named
  have hlocks := B.notSynchronized
  subst hsz
  have hD := hD0.self (sz := s.heap.size)
  generalize hAe : va_A [(lo, .inr (2, [.ref ra, .ref d0, .ref b0, .ref t0, .ref r0])), (ra, .inl (T 2, 6, .inr (.inr (.inr (.inr (fun j => some (rd j)))))))] s.heap.size = A at hD hG ⊢
  have hA : ∀ q : Nat, s.heap.size ≤ q → A q := fun q h => by rw [← hAe]; exact Or.inr h
  have hS : va_S A s.heap s.heap [] := va_S.rf
  have hP : va_P D cls [(lo, .inr (2, [.ref ra, .ref d0, .ref b0, .ref t0, .ref r0])), (ra, .inl (T 2, 6, .inr (.inr (.inr (.inr (fun j => some (rd j)))))))] s.heap := hP
  have hl := lv_entry ([.ref lo, .int i]) (n := 2) (Nat.le_of_ble_eq_true rfl)
  rw [lg_entry_eq]
  generalize (lg_sl ([.ref lo, .int i]) ++ List.replicate (2 - (lg_sl ([.ref lo, .int i])).length) Slot.unset).toArray = ls at hl ⊢
  have hl : lv_has ls 2 [(0, .ref lo), (1, .int i)] := hl
  refine lv_aload_n hx hb dX5_length_0 rfl (lv_at hl 0 rfl) ?_
  refine lv_iload_n hx hb dX5_length_1 rfl (lv_at hl 1 rfl) ?_
  refine tx_V (As := [.int i]) (rest := []) (wc := [(lo, .inr (2, [.ref ra, .ref d0, .ref b0, .ref t0, .ref r0])), (ra, .inl (T 2, 6, .inr (.inr (.inr (.inr (fun j => some (rd j)))))))]) (wr := []) ⟨hx, hb, hml, hown, hts⟩ (c_X5_rowAt_x l D T g s.heap.size hl9 lo ra d0 b0 t0 r0 rd i hi) (cwV 1 hts gX5_length_X5_rowAt rfl rfl rfl (by decide +kernel) ⟨Nat.le_of_ble_eq_true rfl, Nat.le_of_ble_eq_true rfl⟩) (va_recv hK hP (ci := 2) (q0 := 0) rfl rfl) hP hD hK hG hS hA [0, 1] [] rfl (by decide) rfl (by decide) (by decide) ⟨Nat.le_of_ble_eq_true rfl, Nat.le_of_ble_eq_true rfl⟩ rfl hl.1 (Nat.le_of_ble_eq_true rfl) dX5_length_2 rfl ht hlocks (fun u t hal hq1 hP hD hFF => ?_) (Nat.le_of_ble_eq_true rfl) (Nat.le_of_ble_eq_true rfl)
  have hP : va_P D cls [(lo, .inr (2, [.ref ra, .ref d0, .ref b0, .ref t0, .ref r0])), (ra, .inl (T 2, 6, .inr (.inr (.inr (.inr (fun j => some (rd j)))))))] t.heap := hP
  have hD : va_D A [(lo, .inr (2, [.ref ra, .ref d0, .ref b0, .ref t0, .ref r0])), (ra, .inl (T 2, 6, .inr (.inr (.inr (.inr (fun j => some (rd j)))))))] := hD
  exact ⟨rfl, ⟨(), trivial, hP.sub (ws' := [(lo, .inr (2, [.ref ra, .ref d0, .ref b0, .ref t0, .ref r0])), (ra, .inl (T 2, 6, .inr (.inr (.inr (.inr (fun j => some (rd j)))))))]) [0, 1] rfl, va_K.moved hal hK, hD.sub (ws' := [(lo, .inr (2, [.ref ra, .ref d0, .ref b0, .ref t0, .ref r0])), (ra, .inl (T 2, 6, .inr (.inr (.inr (.inr (fun j => some (rd j)))))))]) [0, 1] (by decide) rfl⟩, hFF⟩
set_option maxHeartbeats 4000000 in
set_option maxRecDepth 100000 in
theorem c_length (l : Launch) (D : va_G) (T : Nat → ClassId) (g : Nat → Nat) (lo : Nat) (ra : Nat) (d0 : Nat) (b0 : Nat) (t0 : Nat) (r0 : Nat) (rd : Nat → Nat) (i : Nat) (q0 : Nat) (f : Nat → Int32) (n : Nat) (hi : i < 6) : RO l yX5_length wsX5_length ({ frames := 1, cells := 0, slots := 0, locals := 21 } : Room) D T g [.ref lo, .int (nI i)] [(lo, .inr (2, [.ref ra, .ref d0, .ref b0, .ref t0, .ref r0])), (ra, .inl (T 2, 6, .inr (.inr (.inr (.inr (fun j => some (rd j))))))), (rd i, .inr (0, [.ref q0, .int (nI n)])), (q0, .inl (T 0, 440, .inl f))] (.int (nI n)) := by
  refine Met.ofW (cc := cX5_length) (maxL := 2) (ret := (some .int)) (by decide) rfl ?_
  intro p e s m args below meth c s₁ B hml hv
  obtain ⟨rfl, hP, hK, hG⟩ := hv
  have hx := B.exec
  have hb := B.bytes
  have hr := B.returns
  have hts := atoms_spec (ws := wsX5_length) B.pre
  have hown : s.vm.findClass RX5 = some m.cls := findClass_of_methodNamed B.named
  have hlocks := B.notSynchronized
  have hi_X2 : ∀ w ∈ wsX20, w ∈ wsX5_length := by decide +kernel
  have hS : va_S (fun _ => False) s.heap s.heap [] := va_S.rf
  have hl := lv_entry ([.ref lo, .int (nI i)]) (n := 2) (Nat.le_of_ble_eq_true rfl)
  rw [lg_entry_eq]
  generalize (lg_sl ([.ref lo, .int (nI i)]) ++ List.replicate (2 - (lg_sl ([.ref lo, .int (nI i)])).length) Slot.unset).toArray = ls at hl ⊢
  have hl : lv_has ls 2 [(0, .ref lo), (1, .int (nI i))] := hl
  refine lv_aload_n hx hb dX5_length_0 rfl (lv_at hl 0 rfl) ?_
  refine lv_iload_n hx hb dX5_length_1 rfl (lv_at hl 1 rfl) ?_
  refine ro_V (As := [.int (nI i)]) (rest := []) (wc := [(lo, .inr (2, [.ref ra, .ref d0, .ref b0, .ref t0, .ref r0])), (ra, .inl (T 2, 6, .inr (.inr (.inr (.inr (fun j => some (rd j)))))))]) (r := .ref (rd i)) ⟨hx, hb, hml, hown, hts⟩ (c_X5_rowAt l D T g lo ra d0 b0 t0 r0 rd i hi) (cwV 1 hts gX5_length_X5_rowAt rfl rfl rfl (by decide +kernel) ⟨Nat.le_of_ble_eq_true rfl, Nat.le_of_ble_eq_true rfl⟩) (va_recv hK hP (ci := 2) (q0 := 0) rfl rfl) hP hK hG hS [0, 1] rfl ⟨Nat.zero_le _, Nat.zero_le _⟩ rfl hl.1 (Nat.le_of_ble_eq_true rfl) dX5_length_2 rfl ?_
  refine va_getN (D := D) (ci := 0) (v := .int (nI n)) (C := RX2) (T := TX2) (N := 2) hx hb hts hi_X2 hown hK hP 2 rfl rfl 1 (by decide) (nx0 hG) (fun _ h9 => h9) rfl dX5_length_5 ?_
  exact W.iret (v := (nI n)) hx hb hr (fun t ht hW => ⟨(congrArg (fun z => Outcome.returned (some (Value.int z))) (show (nI n) = (nI n) from rfl)), ht⟩) (fun q h => nomatch h) dX5_length_8
set_option maxHeartbeats 4000000 in
set_option maxRecDepth 100000 in
/-- get: no such row -/
theorem c_get_x1 (l : Launch) (D : va_G) (T : Nat → ClassId) (g : Nat → Nat) (sz : Nat) (hl9 : l.stackTraces = false) (lo : Nat) (ra : Nat) (d0 : Nat) (b0 : Nat) (t0 : Nat) (r0 : Nat) (rd : Nat → Nat) (i : Int32) (hi : i < 0 ∨ ¬ i < nI 6) (x0 : Int32) : TX l yX5_get wsX5_get ({ frames := 7, cells := 1, slots := 6, locals := 111 } : Room) D T g [.ref lo, .int i, .int x0] [(lo, .inr (2, [.ref ra, .ref d0, .ref b0, .ref t0, .ref r0])), (ra, .inl (T 2, 6, .inr (.inr (.inr (.inr (fun j => some (rd j)))))))] sz "java/lang/IndexOutOfBoundsException" (fun u : Unit => True) (fun u : Unit => [(lo, .inr (2, [.ref ra, .ref d0, .ref b0, .ref t0, .ref r0])), (ra, .inl (T 2, 6, .inr (.inr (.inr (.inr (fun j => some (rd j)))))))]) 1 6 := by
  refine vx_ofW (cc := cX5_get) (maxL := 4) (ret := (some .int)) (by decide) rfl ?_
  intro p e s m args below meth c s₁ B hml ht hv
  obtain ⟨rfl, hsz, hP, hK, hD0, hG⟩ := hv
  have hx := B.exec
  have hb := B.bytes
  have hr := B.returns
  have hts := atoms_spec (ws := wsX5_get) B.pre
  have hown : s.vm.findClass RX5 = some m.cls := findClass_of_methodNamed B.named
  have hlocks := B.notSynchronized
  subst hsz
  have hD := hD0.self (sz := s.heap.size)
  generalize hAe : va_A [(lo, .inr (2, [.ref ra, .ref d0, .ref b0, .ref t0, .ref r0])), (ra, .inl (T 2, 6, .inr (.inr (.inr (.inr (fun j => some (rd j)))))))] s.heap.size = A at hD hG ⊢
  have hA : ∀ q : Nat, s.heap.size ≤ q → A q := fun q h => by rw [← hAe]; exact Or.inr h
  have hS : va_S A s.heap s.heap [] := va_S.rf
  have hP : va_P D cls [(lo, .inr (2, [.ref ra, .ref d0, .ref b0, .ref t0, .ref r0])), (ra, .inl (T 2, 6, .inr (.inr (.inr (.inr (fun j => some (rd j)))))))] s.heap := hP
  have hl := lv_entry ([.ref lo, .int i, .int x0]) (n := 4) (Nat.le_of_ble_eq_true rfl)
  rw [lg_entry_eq]
  generalize (lg_sl ([.ref lo, .int i, .int x0]) ++ List.replicate (4 - (lg_sl ([.ref lo, .int i, .int x0])).length) Slot.unset).toArray = ls at hl ⊢
  have hl : lv_has ls 4 [(0, .ref lo), (1, .int i), (2, .int x0)] := hl
  refine lv_aload_n hx hb dX5_get_0 rfl (lv_at hl 0 rfl) ?_
  refine lv_iload_n hx hb dX5_get_1 rfl (lv_at hl 1 rfl) ?_
  refine tx_V (As := [.int i]) (rest := []) (wc := [(lo, .inr (2, [.ref ra, .ref d0, .ref b0, .ref t0, .ref r0])), (ra, .inl (T 2, 6, .inr (.inr (.inr (.inr (fun j => some (rd j)))))))]) (wr := []) ⟨hx, hb, hml, hown, hts⟩ (c_X5_rowAt_x l D T g s.heap.size hl9 lo ra d0 b0 t0 r0 rd i hi) (cwV 1 hts gX5_get_X5_rowAt rfl rfl rfl (by decide +kernel) ⟨Nat.le_of_ble_eq_true rfl, Nat.le_of_ble_eq_true rfl⟩) (va_recv hK hP (ci := 2) (q0 := 0) rfl rfl) hP hD hK hG hS hA [0, 1] [] rfl (by decide) rfl (by decide) (by decide) ⟨Nat.le_of_ble_eq_true rfl, Nat.le_of_ble_eq_true rfl⟩ rfl hl.1 (Nat.le_of_ble_eq_true rfl) dX5_get_2 rfl ht hlocks (fun u t hal hq1 hP hD hFF => ?_) (Nat.le_of_ble_eq_true rfl) (Nat.le_of_ble_eq_true rfl)
  have hP : va_P D cls [(lo, .inr (2, [.ref ra, .ref d0, .ref b0, .ref t0, .ref r0])), (ra, .inl (T 2, 6, .inr (.inr (.inr (.inr (fun j => some (rd j)))))))] t.heap := hP
  have hD : va_D A [(lo, .inr (2, [.ref ra, .ref d0, .ref b0, .ref t0, .ref r0])), (ra, .inl (T 2, 6, .inr (.inr (.inr (.inr (fun j => some (rd j)))))))] := hD
  exact ⟨rfl, ⟨(), trivial, hP.sub (ws' := [(lo, .inr (2, [.ref ra, .ref d0, .ref b0, .ref t0, .ref r0])), (ra, .inl (T 2, 6, .inr (.inr (.inr (.inr (fun j => some (rd j)))))))]) [0, 1] rfl, va_K.moved hal hK, hD.sub (ws' := [(lo, .inr (2, [.ref ra, .ref d0, .ref b0, .ref t0, .ref r0])), (ra, .inl (T 2, 6, .inr (.inr (.inr (.inr (fun j => some (rd j)))))))]) [0, 1] (by decide) rfl⟩, hFF⟩
set_option maxHeartbeats 4000000 in
set_option maxRecDepth 100000 in
theorem c_get (l : Launch) (D : va_G) (T : Nat → ClassId) (g : Nat → Nat) (lo : Nat) (ra : Nat) (d0 : Nat) (b0 : Nat) (t0 : Nat) (r0 : Nat) (rd : Nat → Nat) (i : Nat) (q0 : Nat) (f : Nat → Int32) (n : Nat) (b : Nat → Nat) (hb9 : RB f n b) (p9 : Nat) (hi : i < 6) (hp : p9 < n) : RO l yX5_get wsX5_get ({ frames := 1, cells := 0, slots := 0, locals := 21 } : Room) D T g [.ref lo, .int (nI i), .int (nI p9)] [(lo, .inr (2, [.ref ra, .ref d0, .ref b0, .ref t0, .ref r0])), (ra, .inl (T 2, 6, .inr (.inr (.inr (.inr (fun j => some (rd j))))))), (rd i, .inr (0, [.ref q0, .int (nI n)])), (q0, .inl (T 0, 440, .inl f))] (.int (nI (b p9))) := by
  refine Met.ofW (cc := cX5_get) (maxL := 4) (ret := (some .int)) (by decide) rfl ?_
  intro p e s m args below meth c s₁ B hml hv
  obtain ⟨rfl, hP, hK, hG⟩ := hv
  have hx := B.exec
  have hb := B.bytes
  have hr := B.returns
  have hts := atoms_spec (ws := wsX5_get) B.pre
  have hown : s.vm.findClass RX5 = some m.cls := findClass_of_methodNamed B.named
  have hlocks := B.notSynchronized
  have hi_X2 : ∀ w ∈ wsX20, w ∈ wsX5_get := by decide +kernel
  have hS : va_S (fun _ => False) s.heap s.heap [] := va_S.rf
  have hl := lv_entry ([.ref lo, .int (nI i), .int (nI p9)]) (n := 4) (Nat.le_of_ble_eq_true rfl)
  rw [lg_entry_eq]
  generalize (lg_sl ([.ref lo, .int (nI i), .int (nI p9)]) ++ List.replicate (4 - (lg_sl ([.ref lo, .int (nI i), .int (nI p9)])).length) Slot.unset).toArray = ls at hl ⊢
  have hl : lv_has ls 4 [(0, .ref lo), (1, .int (nI i)), (2, .int (nI p9))] := hl
  have hn := hb9.1
  refine lv_aload_n hx hb dX5_get_0 rfl (lv_at hl 0 rfl) ?_
  refine lv_iload_n hx hb dX5_get_1 rfl (lv_at hl 1 rfl) ?_
  refine ro_V (As := [.int (nI i)]) (rest := []) (wc := [(lo, .inr (2, [.ref ra, .ref d0, .ref b0, .ref t0, .ref r0])), (ra, .inl (T 2, 6, .inr (.inr (.inr (.inr (fun j => some (rd j)))))))]) (r := .ref (rd i)) ⟨hx, hb, hml, hown, hts⟩ (c_X5_rowAt l D T g lo ra d0 b0 t0 r0 rd i hi) (cwV 1 hts gX5_get_X5_rowAt rfl rfl rfl (by decide +kernel) ⟨Nat.le_of_ble_eq_true rfl, Nat.le_of_ble_eq_true rfl⟩) (va_recv hK hP (ci := 2) (q0 := 0) rfl rfl) hP hK hG hS [0, 1] rfl ⟨Nat.zero_le _, Nat.zero_le _⟩ rfl hl.1 (Nat.le_of_ble_eq_true rfl) dX5_get_2 rfl ?_
  refine lv_astore_n (lv' := [(3, .ref (rd i)), (0, .ref lo), (1, .int (nI i)), (2, .int (nI p9))]) hx hb dX5_get_5 rfl hl (by decide) rfl (fun ls hl => ?_)
  refine lv_iload_n hx hb dX5_get_6 rfl (lv_at hl 3 rfl) ?_
  refine lv_aload_n hx hb dX5_get_7 rfl (lv_at hl 0 rfl) ?_
  refine va_getN (D := D) (ci := 0) (v := .int (nI n)) (C := RX2) (T := TX2) (N := 2) hx hb hts hi_X2 hown hK hP 2 rfl rfl 1 (by decide) (nx0 hG) (fun _ h9 => h9) rfl dX5_get_8 ?_
  refine rv_S (As := [.int (nI p9), .int (nI n)]) (rest := []) (wc := []) ⟨hx, hb, hml, hown, hts⟩ (c_X5_checkPlace l D T g p9 n (by omega)) (va_cwS 2 hts gX5_get_X5_checkPlace rfl rfl rfl (by decide +kernel) ⟨Nat.le_of_ble_eq_true rfl, Nat.le_of_ble_eq_true rfl⟩) hP hK hG hS [] rfl ⟨Nat.zero_le _, Nat.zero_le _⟩ rfl hl.1 (Nat.le_of_ble_eq_true rfl) dX5_get_11 rfl ?_
  refine lv_aload_n hx hb dX5_get_14 rfl (lv_at hl 0 rfl) ?_
  refine lv_iload_n hx hb dX5_get_15 rfl (lv_at hl 3 rfl) ?_
  refine ro_V (As := [.int (nI p9)]) (rest := []) (wc := [(rd i, .inr (0, [.ref q0, .int (nI n)])), (q0, .inl (T 0, 440, .inl f))]) (r := .int (nI (b p9))) ⟨hx, hb, hml, hown, hts⟩ (c_X2_atB l D T g (rd i) q0 f n p9 b hb9 hp) (cwV 1 hts gX5_get_X2_at rfl rfl rfl (by decide +kernel) ⟨Nat.le_of_ble_eq_true rfl, Nat.le_of_ble_eq_true rfl⟩) (va_recv hK hP (ci := 0) (q0 := 2) rfl rfl) hP hK hG hS [2, 3] rfl ⟨Nat.zero_le _, Nat.zero_le _⟩ rfl hl.1 (Nat.le_of_ble_eq_true rfl) dX5_get_16 rfl ?_
  exact W.iret (v := (nI (b p9))) hx hb hr (fun t ht hW => ⟨(congrArg (fun z => Outcome.returned (some (Value.int z))) (show (nI (b p9)) = (nI (b p9)) from rfl)), ht⟩) (fun q h => nomatch h) dX5_get_19
set_option maxHeartbeats 4000000 in
set_option maxRecDepth 100000 in
theorem c_get_x2 (l : Launch) (D : va_G) (T : Nat → ClassId) (g : Nat → Nat) (sz : Nat) (hl9 : l.stackTraces = false) (lo : Nat) (ra : Nat) (d0 : Nat) (b0 : Nat) (t0 : Nat) (r0 : Nat) (rd : Nat → Nat) (i : Nat) (q0 : Nat) (f : Nat → Int32) (n : Nat) (hi : i < 6) (p9 : Int32) (hp : p9 < 0 ∨ ¬ p9 < nI n) : TX l yX5_get wsX5_get ({ frames := 7, cells := 1, slots := 6, locals := 111 } : Room) D T g [.ref lo, .int (nI i), .int p9] [(lo, .inr (2, [.ref ra, .ref d0, .ref b0, .ref t0, .ref r0])), (ra, .inl (T 2, 6, .inr (.inr (.inr (.inr (fun j => some (rd j))))))), (rd i, .inr (0, [.ref q0, .int (nI n)])), (q0, .inl (T 0, 440, .inl f))] sz "java/lang/IndexOutOfBoundsException" (fun u : Unit => True) (fun u : Unit => [(lo, .inr (2, [.ref ra, .ref d0, .ref b0, .ref t0, .ref r0])), (ra, .inl (T 2, 6, .inr (.inr (.inr (.inr (fun j => some (rd j))))))), (rd i, .inr (0, [.ref q0, .int (nI n)])), (q0, .inl (T 0, 440, .inl f))]) 1 6 := by
  refine vx_ofW (cc := cX5_get) (maxL := 4) (ret := (some .int)) (by decide) rfl ?_
  intro p e s m args below meth c s₁ B hml ht hv
  obtain ⟨rfl, hsz, hP, hK, hD0, hG⟩ := hv
  have hx := B.exec
  have hb := B.bytes
  have hr := B.returns
  have hts := atoms_spec (ws := wsX5_get) B.pre
  have hown : s.vm.findClass RX5 = some m.cls := findClass_of_methodNamed B.named
  have hlocks := B.notSynchronized
  have hi_X2 : ∀ w ∈ wsX20, w ∈ wsX5_get := by decide +kernel
  subst hsz
  have hD := hD0.self (sz := s.heap.size)
  generalize hAe : va_A [(lo, .inr (2, [.ref ra, .ref d0, .ref b0, .ref t0, .ref r0])), (ra, .inl (T 2, 6, .inr (.inr (.inr (.inr (fun j => some (rd j))))))), (rd i, .inr (0, [.ref q0, .int (nI n)])), (q0, .inl (T 0, 440, .inl f))] s.heap.size = A at hD hG ⊢
  have hA : ∀ q : Nat, s.heap.size ≤ q → A q := fun q h => by rw [← hAe]; exact Or.inr h
  have hS : va_S A s.heap s.heap [] := va_S.rf
  have hP : va_P D cls [(lo, .inr (2, [.ref ra, .ref d0, .ref b0, .ref t0, .ref r0])), (ra, .inl (T 2, 6, .inr (.inr (.inr (.inr (fun j => some (rd j))))))), (rd i, .inr (0, [.ref q0, .int (nI n)])), (q0, .inl (T 0, 440, .inl f))] s.heap := hP
  have hl := lv_entry ([.ref lo, .int (nI i), .int p9]) (n := 4) (Nat.le_of_ble_eq_true rfl)
  rw [lg_entry_eq]
  generalize (lg_sl ([.ref lo, .int (nI i), .int p9]) ++ List.replicate (4 - (lg_sl ([.ref lo, .int (nI i), .int p9])).length) Slot.unset).toArray = ls at hl ⊢
  have hl : lv_has ls 4 [(0, .ref lo), (1, .int (nI i)), (2, .int p9)] := hl
  refine lv_aload_n hx hb dX5_get_0 rfl (lv_at hl 0 rfl) ?_
  refine lv_iload_n hx hb dX5_get_1 rfl (lv_at hl 1 rfl) ?_
  refine ro_V (As := [.int (nI i)]) (rest := []) (wc := [(lo, .inr (2, [.ref ra, .ref d0, .ref b0, .ref t0, .ref r0])), (ra, .inl (T 2, 6, .inr (.inr (.inr (.inr (fun j => some (rd j)))))))]) (r := .ref (rd i)) ⟨hx, hb, hml, hown, hts⟩ (c_X5_rowAt l D T g lo ra d0 b0 t0 r0 rd i hi) (cwV 1 hts gX5_get_X5_rowAt rfl rfl rfl (by decide +kernel) ⟨Nat.le_of_ble_eq_true rfl, Nat.le_of_ble_eq_true rfl⟩) (va_recv hK hP (ci := 2) (q0 := 0) rfl rfl) hP hK hG hS [0, 1] rfl ⟨Nat.zero_le _, Nat.zero_le _⟩ rfl hl.1 (Nat.le_of_ble_eq_true rfl) dX5_get_2 rfl ?_
  refine lv_astore_n (lv' := [(3, .ref (rd i)), (0, .ref lo), (1, .int (nI i)), (2, .int p9)]) hx hb dX5_get_5 rfl hl (by decide) rfl (fun ls hl => ?_)
  refine lv_iload_n hx hb dX5_get_6 rfl (lv_at hl 3 rfl) ?_
  refine lv_aload_n hx hb dX5_get_7 rfl (lv_at hl 0 rfl) ?_
  refine va_getN (D := D) (ci := 0) (v := .int (nI n)) (C := RX2) (T := TX2) (N := 2) hx hb hts hi_X2 hown hK hP 2 rfl rfl 1 (by decide) (nx0 hG) (fun _ h9 => h9) rfl dX5_get_8 ?_
  refine tx_S (As := [.int p9, .int (nI n)]) (rest := []) (wc := []) (wr := [(lo, .inr (2, [.ref ra, .ref d0, .ref b0, .ref t0, .ref r0])), (ra, .inl (T 2, 6, .inr (.inr (.inr (.inr (fun j => some (rd j))))))), (rd i, .inr (0, [.ref q0, .int (nI n)])), (q0, .inl (T 0, 440, .inl f))]) ⟨hx, hb, hml, hown, hts⟩ (c_X5_checkPlace_x l D T g s.heap.size hl9 p9 n hp) (va_cwS 2 hts gX5_get_X5_checkPlace rfl rfl rfl (by decide +kernel) ⟨Nat.le_of_ble_eq_true rfl, Nat.le_of_ble_eq_true rfl⟩) hP hD hK hG hS hA [] [0, 1, 2, 3] rfl (by decide) rfl (by decide) (by decide) ⟨Nat.le_of_ble_eq_true rfl, Nat.le_of_ble_eq_true rfl⟩ rfl hl.1 (Nat.le_of_ble_eq_true rfl) dX5_get_11 rfl ht hlocks (fun u t hal hq1 hP hD hFF => ?_) (Nat.le_of_ble_eq_true rfl) (Nat.le_of_ble_eq_true rfl)
  have hP : va_P D cls [(lo, .inr (2, [.ref ra, .ref d0, .ref b0, .ref t0, .ref r0])), (ra, .inl (T 2, 6, .inr (.inr (.inr (.inr (fun j => some (rd j))))))), (rd i, .inr (0, [.ref q0, .int (nI n)])), (q0, .inl (T 0, 440, .inl f))] t.heap := hP
  have hD : va_D A [(lo, .inr (2, [.ref ra, .ref d0, .ref b0, .ref t0, .ref r0])), (ra, .inl (T 2, 6, .inr (.inr (.inr (.inr (fun j => some (rd j))))))), (rd i, .inr (0, [.ref q0, .int (nI n)])), (q0, .inl (T 0, 440, .inl f))] := hD
  exact ⟨rfl, ⟨(), trivial, hP.sub (ws' := [(lo, .inr (2, [.ref ra, .ref d0, .ref b0, .ref t0, .ref r0])), (ra, .inl (T 2, 6, .inr (.inr (.inr (.inr (fun j => some (rd j))))))), (rd i, .inr (0, [.ref q0, .int (nI n)])), (q0, .inl (T 0, 440, .inl f))]) [0, 1, 2, 3] rfl, va_K.moved hal hK, hD.sub (ws' := [(lo, .inr (2, [.ref ra, .ref d0, .ref b0, .ref t0, .ref r0])), (ra, .inl (T 2, 6, .inr (.inr (.inr (.inr (fun j => some (rd j))))))), (rd i, .inr (0, [.ref q0, .int (nI n)])), (q0, .inl (T 0, 440, .inl f))]) [0, 1, 2, 3] (by decide) rfl⟩, hFF⟩
