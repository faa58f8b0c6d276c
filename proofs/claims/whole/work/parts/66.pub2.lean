set_option maxHeartbeats 4000000 in
set_option maxRecDepth 100000 in
theorem m_copy_1 (l : Launch) (D : va_G) (T : Nat → ClassId) (g : Nat → Nat) (sz : Nat) (m0 : Nat) (mb : Nat) (ml : Nat) (mm : Nat) (mk : Nat) (many : Nat) (th : Int32) (fb : Nat → Int32) (fl : Nat → Int32) (fm : Nat → Int32) (fk : Nat → Int32) (N : Nat → Nat) (Bw : Nat → Nat → Nat) (hMR : MR fl fb N Bw) (i : Int32) (hi : i < 0 ∨ nI 5 < i) (x0 : Int32) : MU l yX6_copy wsX6_copy ({ frames := 60, cells := 0, slots := 0, locals := 3000 } : Room) D T g [.ref m0, .int i, .int x0] [(m0, .inr (3, [.ref mb, .ref ml, .ref mm, .int (nI many), .int th, .ref mk])), (mb, .inl (T 0, 1920, .inl fb)), (ml, .inl (T 0, 6, .inl fl)), (mm, .inl (T 0, 600, .inl fm)), (mk, .inl (T 0, 320, .inl fk))] sz (fun u : Nat × Int32 × (Nat → Int32) × (Nat → Int32) × (Nat → Int32) × (Nat → Int32) => some (.int (nI 0))) (fun u : Nat × Int32 × (Nat → Int32) × (Nat → Int32) × (Nat → Int32) × (Nat → Int32) => u.2.1 = nI 1 ∧ MR u.2.2.2.1 u.2.2.1 (N) (Bw)) (fun u : Nat × Int32 × (Nat → Int32) × (Nat → Int32) × (Nat → Int32) × (Nat → Int32) => [(m0, .inr (3, [.ref mb, .ref ml, .ref mm, .int (nI u.1), .int u.2.1, .ref mk])), (mb, .inl (T 0, 1920, .inl u.2.2.1)), (ml, .inl (T 0, 6, .inl u.2.2.2.1)), (mm, .inl (T 0, 600, .inl u.2.2.2.2.1)), (mk, .inl (T 0, 320, .inl u.2.2.2.2.2))]) 0 0 := by
  refine Met.ofW (cc := cX6_copy) (maxL := 4) (ret := (some .int)) (by decide) rfl ?_
  intro p e s m args below meth c s₁ B hml hv
  obtain ⟨rfl, hsz, hP, hK, hD0, hG⟩ := hv
  have hx := B.exec
  have hb := B.bytes
  have hr := B.returns
  have hts := atoms_spec (ws := wsX6_copy) B.pre
  have hown : s.vm.findClass RX6 = some m.cls := findClass_of_methodNamed B.named
  have hlocks := B.notSynchronized
  subst hsz
  have hD := hD0.self (sz := s.heap.size)
  generalize hAe : va_A [(m0, .inr (3, [.ref mb, .ref ml, .ref mm, .int (nI many), .int th, .ref mk])), (mb, .inl (T 0, 1920, .inl fb)), (ml, .inl (T 0, 6, .inl fl)), (mm, .inl (T 0, 600, .inl fm)), (mk, .inl (T 0, 320, .inl fk))] s.heap.size = A at hD hG ⊢
  have hA : ∀ q : Nat, s.heap.size ≤ q → A q := fun q h => by rw [← hAe]; exact Or.inr h
  have hS : va_S A s.heap s.heap [] := va_S.rf
  have hP : va_P D cls [(m0, .inr (3, [.ref mb, .ref ml, .ref mm, .int (nI many), .int th, .ref mk])), (mb, .inl (T 0, 1920, .inl fb)), (ml, .inl (T 0, 6, .inl fl)), (mm, .inl (T 0, 600, .inl fm)), (mk, .inl (T 0, 320, .inl fk))] s.heap := hP
  have hl := lv_entry ([.ref m0, .int i, .int x0]) (n := 4) (Nat.le_of_ble_eq_true rfl)
  rw [lg_entry_eq]
  generalize (lg_sl ([.ref m0, .int i, .int x0]) ++ List.replicate (4 - (lg_sl ([.ref m0, .int i, .int x0])).length) Slot.unset).toArray = ls at hl ⊢
  have hl : lv_has ls 4 [(0, .ref m0), (1, .int i), (2, .int x0)] := hl
  refine lv_aload_n hx hb dX6_copy_0 rfl (lv_at hl 0 rfl) ?_
  refine lv_aload_n hx hb dX6_copy_1 rfl (lv_at hl 0 rfl) ?_
  refine lv_iload_n hx hb dX6_copy_2 rfl (lv_at hl 1 rfl) ?_
  refine ro_V (As := [.int i]) (rest := [.ref m0]) (wc := []) (r := .int (nI 0)) ⟨hx, hb, hml, hown, hts⟩ (c_X6_isRow_n l D T g m0 i hi) (cwV 1 hts gX6_copy_X6_isRow rfl rfl rfl (by decide +kernel) ⟨Nat.le_of_ble_eq_true rfl, Nat.le_of_ble_eq_true rfl⟩) (va_recv hK hP (ci := 3) (q0 := 0) rfl rfl) hP hK hG hS [] rfl ⟨Nat.zero_le _, Nat.zero_le _⟩ rfl hl.1 (Nat.le_of_ble_eq_true rfl) dX6_copy_3 rfl ?_
  refine ln_if_eq_t (tgt := 21) hx hb (by omega) (by decide) dX6_copy_6 (by decide) ?_
  refine lv_iconst (v := (nI 1)) hx hb dX6_copy_21 (by decide +kernel) ?_
  refine mu_V (As := [.int (nI 1)]) (rest := []) (wc := [(m0, .inr (3, [.ref mb, .ref ml, .ref mm, .int (nI many), .int th, .ref mk]))]) (wr := [(mb, .inl (T 0, 1920, .inl fb)), (ml, .inl (T 0, 6, .inl fl)), (mm, .inl (T 0, 600, .inl fm)), (mk, .inl (T 0, 320, .inl fk))]) ⟨hx, hb, hml, hown, hts⟩ (c_X6_isWrong_p l D T g s.heap.size m0 mb ml mm mk many th 1 (by omega)) (cwV 1 hts gX6_copy_X6_isWrong rfl rfl rfl (by decide +kernel) ⟨Nat.le_of_ble_eq_true rfl, Nat.le_of_ble_eq_true rfl⟩) (va_recv hK hP (ci := 3) (q0 := 0) rfl rfl) hP hD hK hG hS hA [0] [1, 2, 3, 4] rfl (by decide) rfl (by decide) (by decide) ⟨Nat.le_of_ble_eq_true rfl, Nat.le_of_ble_eq_true rfl⟩ rfl hl.1 (Nat.le_of_ble_eq_true rfl) dX6_copy_22 rfl (fun u H locs hq1 hP hD hS => ?_)
  have hP : va_P D cls [(mb, .inl (T 0, 1920, .inl fb)), (ml, .inl (T 0, 6, .inl fl)), (mm, .inl (T 0, 600, .inl fm)), (mk, .inl (T 0, 320, .inl fk)), (m0, .inr (3, [.ref mb, .ref ml, .ref mm, .int (nI many), .int (nI 1), .ref mk]))] H := hP
  have hD : va_D A [(mb, .inl (T 0, 1920, .inl fb)), (ml, .inl (T 0, 6, .inl fl)), (mm, .inl (T 0, 600, .inl fm)), (mk, .inl (T 0, 320, .inl fk)), (m0, .inr (3, [.ref mb, .ref ml, .ref mm, .int (nI many), .int (nI 1), .ref mk]))] := hD
  refine W.eq (g2 := F0 m 25 ls [.int (nI 1)]) rfl ?_
  refine ln_if_eq_f (tgt := 30) hx hb (by omega) (by decide) dX6_copy_25 (by decide) ?_
  refine lv_iconst (v := (nI 0)) hx hb dX6_copy_28 (by decide +kernel) ?_
  have hP9 := hP.sub (ws' := [(m0, .inr (3, [.ref mb, .ref ml, .ref mm, .int (nI many), .int (nI 1), .ref mk])), (mb, .inl (T 0, 1920, .inl fb)), (ml, .inl (T 0, 6, .inl fl)), (mm, .inl (T 0, 600, .inl fm)), (mk, .inl (T 0, 320, .inl fk))]) [4, 0, 1, 2, 3] rfl
  have hD9 := hD.sub (ws' := [(m0, .inr (3, [.ref mb, .ref ml, .ref mm, .int (nI many), .int (nI 1), .ref mk])), (mb, .inl (T 0, 1920, .inl fb)), (ml, .inl (T 0, 6, .inl fl)), (mm, .inl (T 0, 600, .inl fm)), (mk, .inl (T 0, 320, .inl fk))]) [4, 0, 1, 2, 3] (by decide) rfl
  exact W.iret (v := (nI 0)) hx hb hr (fun t ht hW => ⟨⟨(many, (nI 1), fb, fl, fm, fk), rfl, show (nI 1) = nI 1 ∧ MR fl fb (N) (Bw) from ⟨rfl, hMR⟩, (by rw [ht]; exact hP9), va_K.moved hW.alike hK, hD9⟩, hS.F ht⟩) hS.2.2 dX6_copy_29
set_option maxHeartbeats 4000000 in
set_option maxRecDepth 100000 in
theorem m_copy_2 (l : Launch) (D : va_G) (T : Nat → ClassId) (g : Nat → Nat) (sz : Nat) (m0 : Nat) (mb : Nat) (ml : Nat) (mm : Nat) (mk : Nat) (many : Nat) (th : Int32) (fb : Nat → Int32) (fl : Nat → Int32) (fm : Nat → Int32) (fk : Nat → Int32) (N : Nat → Nat) (Bw : Nat → Nat → Nat) (hMR : MR fl fb N Bw) (i : Nat) (hi : i < 6) (j : Int32) (hj : j < 0 ∨ nI 5 < j) : MU l yX6_copy wsX6_copy ({ frames := 60, cells := 0, slots := 0, locals := 3000 } : Room) D T g [.ref m0, .int (nI i), .int j] [(m0, .inr (3, [.ref mb, .ref ml, .ref mm, .int (nI many), .int th, .ref mk])), (mb, .inl (T 0, 1920, .inl fb)), (ml, .inl (T 0, 6, .inl fl)), (mm, .inl (T 0, 600, .inl fm)), (mk, .inl (T 0, 320, .inl fk))] sz (fun u : Nat × Int32 × (Nat → Int32) × (Nat → Int32) × (Nat → Int32) × (Nat → Int32) => some (.int (nI 0))) (fun u : Nat × Int32 × (Nat → Int32) × (Nat → Int32) × (Nat → Int32) × (Nat → Int32) => u.2.1 = nI 1 ∧ MR u.2.2.2.1 u.2.2.1 (N) (Bw)) (fun u : Nat × Int32 × (Nat → Int32) × (Nat → Int32) × (Nat → Int32) × (Nat → Int32) => [(m0, .inr (3, [.ref mb, .ref ml, .ref mm, .int (nI u.1), .int u.2.1, .ref mk])), (mb, .inl (T 0, 1920, .inl u.2.2.1)), (ml, .inl (T 0, 6, .inl u.2.2.2.1)), (mm, .inl (T 0, 600, .inl u.2.2.2.2.1)), (mk, .inl (T 0, 320, .inl u.2.2.2.2.2))]) 0 0 := by
  refine Met.ofW (cc := cX6_copy) (maxL := 4) (ret := (some .int)) (by decide) rfl ?_
  intro p e s m args below meth c s₁ B hml hv
  obtain ⟨rfl, hsz, hP, hK, hD0, hG⟩ := hv
  have hx := B.exec
  have hb := B.bytes
  have hr := B.returns
  have hts := atoms_spec (ws := wsX6_copy) B.pre
  have hown : s.vm.findClass RX6 = some m.cls := findClass_of_methodNamed B.named
  have hlocks := B.notSynchronized
  subst hsz
  have hD := hD0.self (sz := s.heap.size)
  generalize hAe : va_A [(m0, .inr (3, [.ref mb, .ref ml, .ref mm, .int (nI many), .int th, .ref mk])), (mb, .inl (T 0, 1920, .inl fb)), (ml, .inl (T 0, 6, .inl fl)), (mm, .inl (T 0, 600, .inl fm)), (mk, .inl (T 0, 320, .inl fk))] s.heap.size = A at hD hG ⊢
  have hA : ∀ q : Nat, s.heap.size ≤ q → A q := fun q h => by rw [← hAe]; exact Or.inr h
  have hS : va_S A s.heap s.heap [] := va_S.rf
  have hP : va_P D cls [(m0, .inr (3, [.ref mb, .ref ml, .ref mm, .int (nI many), .int th, .ref mk])), (mb, .inl (T 0, 1920, .inl fb)), (ml, .inl (T 0, 6, .inl fl)), (mm, .inl (T 0, 600, .inl fm)), (mk, .inl (T 0, 320, .inl fk))] s.heap := hP
  have hl := lv_entry ([.ref m0, .int (nI i), .int j]) (n := 4) (Nat.le_of_ble_eq_true rfl)
  rw [lg_entry_eq]
  generalize (lg_sl ([.ref m0, .int (nI i), .int j]) ++ List.replicate (4 - (lg_sl ([.ref m0, .int (nI i), .int j])).length) Slot.unset).toArray = ls at hl ⊢
  have hl : lv_has ls 4 [(0, .ref m0), (1, .int (nI i)), (2, .int j)] := hl
  refine lv_aload_n hx hb dX6_copy_0 rfl (lv_at hl 0 rfl) ?_
  refine lv_aload_n hx hb dX6_copy_1 rfl (lv_at hl 0 rfl) ?_
  refine lv_iload_n hx hb dX6_copy_2 rfl (lv_at hl 1 rfl) ?_
  refine ro_V (As := [.int (nI i)]) (rest := [.ref m0]) (wc := []) (r := .int (nI 1)) ⟨hx, hb, hml, hown, hts⟩ (c_X6_isRow_y l D T g m0 i (by omega)) (cwV 1 hts gX6_copy_X6_isRow rfl rfl rfl (by decide +kernel) ⟨Nat.le_of_ble_eq_true rfl, Nat.le_of_ble_eq_true rfl⟩) (va_recv hK hP (ci := 3) (q0 := 0) rfl rfl) hP hK hG hS [] rfl ⟨Nat.zero_le _, Nat.zero_le _⟩ rfl hl.1 (Nat.le_of_ble_eq_true rfl) dX6_copy_3 rfl ?_
  refine ln_if_eq_f (tgt := 21) hx hb (by omega) (by decide) dX6_copy_6 (by decide) ?_
  refine lv_aload_n hx hb dX6_copy_9 rfl (lv_at hl 0 rfl) ?_
  refine lv_iload_n hx hb dX6_copy_10 rfl (lv_at hl 2 rfl) ?_
  refine ro_V (As := [.int j]) (rest := [.ref m0]) (wc := []) (r := .int (nI 0)) ⟨hx, hb, hml, hown, hts⟩ (c_X6_isRow_n l D T g m0 j hj) (cwV 1 hts gX6_copy_X6_isRow rfl rfl rfl (by decide +kernel) ⟨Nat.le_of_ble_eq_true rfl, Nat.le_of_ble_eq_true rfl⟩) (va_recv hK hP (ci := 3) (q0 := 0) rfl rfl) hP hK hG hS [] rfl ⟨Nat.zero_le _, Nat.zero_le _⟩ rfl hl.1 (Nat.le_of_ble_eq_true rfl) dX6_copy_11 rfl ?_
  refine ln_if_eq_t (tgt := 21) hx hb (by omega) (by decide) dX6_copy_14 (by decide) ?_
  refine lv_iconst (v := (nI 1)) hx hb dX6_copy_21 (by decide +kernel) ?_
  refine mu_V (As := [.int (nI 1)]) (rest := []) (wc := [(m0, .inr (3, [.ref mb, .ref ml, .ref mm, .int (nI many), .int th, .ref mk]))]) (wr := [(mb, .inl (T 0, 1920, .inl fb)), (ml, .inl (T 0, 6, .inl fl)), (mm, .inl (T 0, 600, .inl fm)), (mk, .inl (T 0, 320, .inl fk))]) ⟨hx, hb, hml, hown, hts⟩ (c_X6_isWrong_p l D T g s.heap.size m0 mb ml mm mk many th 1 (by omega)) (cwV 1 hts gX6_copy_X6_isWrong rfl rfl rfl (by decide +kernel) ⟨Nat.le_of_ble_eq_true rfl, Nat.le_of_ble_eq_true rfl⟩) (va_recv hK hP (ci := 3) (q0 := 0) rfl rfl) hP hD hK hG hS hA [0] [1, 2, 3, 4] rfl (by decide) rfl (by decide) (by decide) ⟨Nat.le_of_ble_eq_true rfl, Nat.le_of_ble_eq_true rfl⟩ rfl hl.1 (Nat.le_of_ble_eq_true rfl) dX6_copy_22 rfl (fun u H locs hq1 hP hD hS => ?_)
  have hP : va_P D cls [(mb, .inl (T 0, 1920, .inl fb)), (ml, .inl (T 0, 6, .inl fl)), (mm, .inl (T 0, 600, .inl fm)), (mk, .inl (T 0, 320, .inl fk)), (m0, .inr (3, [.ref mb, .ref ml, .ref mm, .int (nI many), .int (nI 1), .ref mk]))] H := hP
  have hD : va_D A [(mb, .inl (T 0, 1920, .inl fb)), (ml, .inl (T 0, 6, .inl fl)), (mm, .inl (T 0, 600, .inl fm)), (mk, .inl (T 0, 320, .inl fk)), (m0, .inr (3, [.ref mb, .ref ml, .ref mm, .int (nI many), .int (nI 1), .ref mk]))] := hD
  refine W.eq (g2 := F0 m 25 ls [.int (nI 1)]) rfl ?_
  refine ln_if_eq_f (tgt := 30) hx hb (by omega) (by decide) dX6_copy_25 (by decide) ?_
  refine lv_iconst (v := (nI 0)) hx hb dX6_copy_28 (by decide +kernel) ?_
  have hP9 := hP.sub (ws' := [(m0, .inr (3, [.ref mb, .ref ml, .ref mm, .int (nI many), .int (nI 1), .ref mk])), (mb, .inl (T 0, 1920, .inl fb)), (ml, .inl (T 0, 6, .inl fl)), (mm, .inl (T 0, 600, .inl fm)), (mk, .inl (T 0, 320, .inl fk))]) [4, 0, 1, 2, 3] rfl
  have hD9 := hD.sub (ws' := [(m0, .inr (3, [.ref mb, .ref ml, .ref mm, .int (nI many), .int (nI 1), .ref mk])), (mb, .inl (T 0, 1920, .inl fb)), (ml, .inl (T 0, 6, .inl fl)), (mm, .inl (T 0, 600, .inl fm)), (mk, .inl (T 0, 320, .inl fk))]) [4, 0, 1, 2, 3] (by decide) rfl
  exact W.iret (v := (nI 0)) hx hb hr (fun t ht hW => ⟨⟨(many, (nI 1), fb, fl, fm, fk), rfl, show (nI 1) = nI 1 ∧ MR fl fb (N) (Bw) from ⟨rfl, hMR⟩, (by rw [ht]; exact hP9), va_K.moved hW.alike hK, hD9⟩, hS.F ht⟩) hS.2.2 dX6_copy_29
set_option maxHeartbeats 4000000 in
set_option maxRecDepth 100000 in
theorem m_copy (l : Launch) (D : va_G) (T : Nat → ClassId) (g : Nat → Nat) (sz : Nat) (m0 : Nat) (mb : Nat) (ml : Nat) (mm : Nat) (mk : Nat) (many : Nat) (th : Int32) (fb : Nat → Int32) (fl : Nat → Int32) (fm : Nat → Int32) (fk : Nat → Int32) (N : Nat → Nat) (Bw : Nat → Nat → Nat) (hMR : MR fl fb N Bw) (i : Nat) (hi : i < 6) (j : Nat) (hj : j < 6) : MU l yX6_copy wsX6_copy ({ frames := 60, cells := 0, slots := 0, locals := 3000 } : Room) D T g [.ref m0, .int (nI i), .int (nI j)] [(m0, .inr (3, [.ref mb, .ref ml, .ref mm, .int (nI many), .int th, .ref mk])), (mb, .inl (T 0, 1920, .inl fb)), (ml, .inl (T 0, 6, .inl fl)), (mm, .inl (T 0, 600, .inl fm)), (mk, .inl (T 0, 320, .inl fk))] sz (fun u : Nat × Int32 × (Nat → Int32) × (Nat → Int32) × (Nat → Int32) × (Nat → Int32) => some (.int (nI (N i)))) (fun u : Nat × Int32 × (Nat → Int32) × (Nat → Int32) × (Nat → Int32) × (Nat → Int32) => u.2.1 = nI 0 ∧ MR u.2.2.2.1 u.2.2.1 (upA N j (N i)) (upA Bw j (Bw i))) (fun u : Nat × Int32 × (Nat → Int32) × (Nat → Int32) × (Nat → Int32) × (Nat → Int32) => [(m0, .inr (3, [.ref mb, .ref ml, .ref mm, .int (nI u.1), .int u.2.1, .ref mk])), (mb, .inl (T 0, 1920, .inl u.2.2.1)), (ml, .inl (T 0, 6, .inl u.2.2.2.1)), (mm, .inl (T 0, 600, .inl u.2.2.2.2.1)), (mk, .inl (T 0, 320, .inl u.2.2.2.2.2))]) 0 0 := by
  refine Met.ofW (cc := cX6_copy) (maxL := 4) (ret := (some .int)) (by decide) rfl ?_
  intro p e s m args below meth c s₁ B hml hv
  obtain ⟨rfl, hsz, hP, hK, hD0, hG⟩ := hv
  have hx := B.exec
  have hb := B.bytes
  have hr := B.returns
  have hts := atoms_spec (ws := wsX6_copy) B.pre
  have hown : s.vm.findClass RX6 = some m.cls := findClass_of_methodNamed B.named
  have hlocks := B.notSynchronized
  have hi_X6 : ∀ w ∈ wsX60, w ∈ wsX6_copy := by decide +kernel
  subst hsz
  have hD := hD0.self (sz := s.heap.size)
  generalize hAe : va_A [(m0, .inr (3, [.ref mb, .ref ml, .ref mm, .int (nI many), .int th, .ref mk])), (mb, .inl (T 0, 1920, .inl fb)), (ml, .inl (T 0, 6, .inl fl)), (mm, .inl (T 0, 600, .inl fm)), (mk, .inl (T 0, 320, .inl fk))] s.heap.size = A at hD hG ⊢
  have hA : ∀ q : Nat, s.heap.size ≤ q → A q := fun q h => by rw [← hAe]; exact Or.inr h
  have hS : va_S A s.heap s.heap [] := va_S.rf
  have hP : va_P D cls [(m0, .inr (3, [.ref mb, .ref ml, .ref mm, .int (nI many), .int th, .ref mk])), (mb, .inl (T 0, 1920, .inl fb)), (ml, .inl (T 0, 6, .inl fl)), (mm, .inl (T 0, 600, .inl fm)), (mk, .inl (T 0, 320, .inl fk))] s.heap := hP
  have hl := lv_entry ([.ref m0, .int (nI i), .int (nI j)]) (n := 4) (Nat.le_of_ble_eq_true rfl)
  rw [lg_entry_eq]
  generalize (lg_sl ([.ref m0, .int (nI i), .int (nI j)]) ++ List.replicate (4 - (lg_sl ([.ref m0, .int (nI i), .int (nI j)])).length) Slot.unset).toArray = ls at hl ⊢
  have hl : lv_has ls 4 [(0, .ref m0), (1, .int (nI i)), (2, .int (nI j))] := hl
  have hrow := hMR i hi
  have hn := hrow.2.1
  refine lv_aload_n hx hb dX6_copy_0 rfl (lv_at hl 0 rfl) ?_
  refine lv_aload_n hx hb dX6_copy_1 rfl (lv_at hl 0 rfl) ?_
  refine lv_iload_n hx hb dX6_copy_2 rfl (lv_at hl 1 rfl) ?_
  refine ro_V (As := [.int (nI i)]) (rest := [.ref m0]) (wc := []) (r := .int (nI 1)) ⟨hx, hb, hml, hown, hts⟩ (c_X6_isRow_y l D T g m0 i (by omega)) (cwV 1 hts gX6_copy_X6_isRow rfl rfl rfl (by decide +kernel) ⟨Nat.le_of_ble_eq_true rfl, Nat.le_of_ble_eq_true rfl⟩) (va_recv hK hP (ci := 3) (q0 := 0) rfl rfl) hP hK hG hS [] rfl ⟨Nat.zero_le _, Nat.zero_le _⟩ rfl hl.1 (Nat.le_of_ble_eq_true rfl) dX6_copy_3 rfl ?_
  refine ln_if_eq_f (tgt := 21) hx hb (by omega) (by decide) dX6_copy_6 (by decide) ?_
  refine lv_aload_n hx hb dX6_copy_9 rfl (lv_at hl 0 rfl) ?_
  refine lv_iload_n hx hb dX6_copy_10 rfl (lv_at hl 2 rfl) ?_
  refine ro_V (As := [.int (nI j)]) (rest := [.ref m0]) (wc := []) (r := .int (nI 1)) ⟨hx, hb, hml, hown, hts⟩ (c_X6_isRow_y l D T g m0 j (by omega)) (cwV 1 hts gX6_copy_X6_isRow rfl rfl rfl (by decide +kernel) ⟨Nat.le_of_ble_eq_true rfl, Nat.le_of_ble_eq_true rfl⟩) (va_recv hK hP (ci := 3) (q0 := 0) rfl rfl) hP hK hG hS [] rfl ⟨Nat.zero_le _, Nat.zero_le _⟩ rfl hl.1 (Nat.le_of_ble_eq_true rfl) dX6_copy_11 rfl ?_
  refine ln_if_eq_f (tgt := 21) hx hb (by omega) (by decide) dX6_copy_14 (by decide) ?_
  refine lv_iconst (v := (nI 0)) hx hb dX6_copy_17 (by decide +kernel) ?_
  refine lv_goto (tgt := 22) hx hb dX6_copy_18 (by decide) ?_
  refine mu_V (As := [.int (nI 0)]) (rest := []) (wc := [(m0, .inr (3, [.ref mb, .ref ml, .ref mm, .int (nI many), .int th, .ref mk]))]) (wr := [(mb, .inl (T 0, 1920, .inl fb)), (ml, .inl (T 0, 6, .inl fl)), (mm, .inl (T 0, 600, .inl fm)), (mk, .inl (T 0, 320, .inl fk))]) ⟨hx, hb, hml, hown, hts⟩ (c_X6_isWrong_0 l D T g s.heap.size m0 mb ml mm mk many th) (cwV 1 hts gX6_copy_X6_isWrong rfl rfl rfl (by decide +kernel) ⟨Nat.le_of_ble_eq_true rfl, Nat.le_of_ble_eq_true rfl⟩) (va_recv hK hP (ci := 3) (q0 := 0) rfl rfl) hP hD hK hG hS hA [0] [1, 2, 3, 4] rfl (by decide) rfl (by decide) (by decide) ⟨Nat.le_of_ble_eq_true rfl, Nat.le_of_ble_eq_true rfl⟩ rfl hl.1 (Nat.le_of_ble_eq_true rfl) dX6_copy_22 rfl (fun u H locs hq1 hP hD hS => ?_)
  have hP : va_P D cls [(mb, .inl (T 0, 1920, .inl fb)), (ml, .inl (T 0, 6, .inl fl)), (mm, .inl (T 0, 600, .inl fm)), (mk, .inl (T 0, 320, .inl fk)), (m0, .inr (3, [.ref mb, .ref ml, .ref mm, .int (nI many), .int (nI 0), .ref mk]))] H := hP
  have hD : va_D A [(mb, .inl (T 0, 1920, .inl fb)), (ml, .inl (T 0, 6, .inl fl)), (mm, .inl (T 0, 600, .inl fm)), (mk, .inl (T 0, 320, .inl fk)), (m0, .inr (3, [.ref mb, .ref ml, .ref mm, .int (nI many), .int (nI 0), .ref mk]))] := hD
  refine W.eq (g2 := F0 m 25 ls [.int (nI 0)]) rfl ?_
  refine ln_if_eq_t (tgt := 30) hx hb (by omega) (by decide) dX6_copy_25 (by decide) ?_
  refine lv_aload_n hx hb dX6_copy_30 rfl (lv_at hl 0 rfl) ?_
  refine lv_iconst (v := (nI 0)) hx hb dX6_copy_31 (by decide +kernel) ?_
  refine va_put (D := D) (ci := 3) (v := .int (nI 0)) (ty := .int) (C := RX6) (T := TX6) (N := 6) hx hb hts hi_X6 tyX6 tyX6_ok nmX6 hown hK hP hD hS 4 rfl rfl 3 (by decide) (hts _ (List.mem_of_getElem? (i := 1) rfl)) (fun _ h9 => h9) rfl (by decide +kernel) rfl rfl (Nat.le_of_ble_eq_true rfl) dX6_copy_32 (fun H locs hP hD hS => ?_)
  have hP : va_P D cls [(mb, .inl (T 0, 1920, .inl fb)), (ml, .inl (T 0, 6, .inl fl)), (mm, .inl (T 0, 600, .inl fm)), (mk, .inl (T 0, 320, .inl fk)), (m0, .inr (3, [.ref mb, .ref ml, .ref mm, .int (nI 0), .int (nI 0), .ref mk]))] H := hP
  have hD : va_D A [(mb, .inl (T 0, 1920, .inl fb)), (ml, .inl (T 0, 6, .inl fl)), (mm, .inl (T 0, 600, .inl fm)), (mk, .inl (T 0, 320, .inl fk)), (m0, .inr (3, [.ref mb, .ref ml, .ref mm, .int (nI 0), .int (nI 0), .ref mk]))] := hD
  refine lv_iconst (v := (nI 0)) hx hb dX6_copy_35 (by decide +kernel) ?_
  refine lv_istore_n (lv' := [(3, .int (nI 0)), (0, .ref m0), (1, .int (nI i)), (2, .int (nI j))]) hx hb dX6_copy_36 rfl hl (by decide) rfl (fun ls hl => ?_)
  have K2 : ∀ (N9 : Nat) (d : Nat) (F : Nat → Int32), (d ≤ N i) → (MD F d (Bw i)) → N i - d < N9 → ∀ (H : Heap) (locs : List Loc), va_P D cls [(m0, .inr (3, [.ref mb, .ref ml, .ref mm, .int (nI d), .int (nI 0), .ref mk])), (mb, .inl (T 0, 1920, .inl fb)), (ml, .inl (T 0, 6, .inl fl)), (mm, .inl (T 0, 600, .inl F)), (mk, .inl (T 0, 320, .inl fk))] H → va_D A [(m0, .inr (3, [.ref mb, .ref ml, .ref mm, .int (nI d), .int (nI 0), .ref mk])), (mb, .inl (T 0, 1920, .inl fb)), (ml, .inl (T 0, 6, .inl fl)), (mm, .inl (T 0, 600, .inl F)), (mk, .inl (T 0, 320, .inl fk))] → va_S A s.heap H locs → ∀ ls : Array Slot, lv_has ls 4 [(0, .ref m0), (1, .int (nI i)), (2, .int (nI j)), (3, .int (nI d))] → W p l e (headSpec wsX6_copy ({ frames := 60, cells := 0, slots := 0, locals := 3000 } : Room)).room s m ([.ref m0, .int (nI i), .int (nI j)] : List Value).toArray below meth c H locs 0 0 (MQ below (QM D T A (fun u : Nat × Int32 × (Nat → Int32) × (Nat → Int32) × (Nat → Int32) × (Nat → Int32) => some (.int (nI (N i)))) (fun u : Nat × Int32 × (Nat → Int32) × (Nat → Int32) × (Nat → Int32) × (Nat → Int32) => u.2.1 = nI 0 ∧ MR u.2.2.2.1 u.2.2.1 (upA N j (N i)) (upA Bw j (Bw i))) (fun u : Nat × Int32 × (Nat → Int32) × (Nat → Int32) × (Nat → Int32) × (Nat → Int32) => [(m0, .inr (3, [.ref mb, .ref ml, .ref mm, .int (nI u.1), .int u.2.1, .ref mk])), (mb, .inl (T 0, 1920, .inl u.2.2.1)), (ml, .inl (T 0, 6, .inl u.2.2.2.1)), (mm, .inl (T 0, 600, .inl u.2.2.2.2.1)), (mk, .inl (T 0, 320, .inl u.2.2.2.2.2))])) ([.ref m0, .int (nI i), .int (nI j)] : List Value).toArray s 0 0 A) (F0 m 37 ls []) := by
    intro N9
    induction N9 with
    | zero => intro d F hd hF h9; exact absurd h9 (Nat.not_lt_zero _)
    | succ N9 ih_37 =>
      intro d F hd hF h9 H locs hP hD hS ls hl
      refine lv_iload_n hx hb dX6_copy_37 rfl (lv_at hl 3 rfl) ?_
      refine lv_aload_n hx hb dX6_copy_38 rfl (lv_at hl 0 rfl) ?_
      refine va_get (D := D) (ci := 3) (v := .ref ml) (C := RX6) (T := TX6) (N := 6) hx hb hts hi_X6 hown hK hP 0 rfl rfl 1 (by decide) (hts _ (List.mem_of_getElem? (i := 2) rfl)) (fun _ h9 => h9) rfl dX6_copy_39 ?_
      refine lv_iload_n hx hb dX6_copy_42 rfl (lv_at hl 1 rfl) ?_
      refine ln_iald hx hb hK hP 2 0 rfl rfl ⟨by omega, by omega⟩ dX6_copy_43 ?_
      rw [show fl i = nI (N i) from hrow.1]
      refine ln_icmp_ge (tgt := 63) hx hb ⟨by omega, by omega⟩ dX6_copy_44 (by decide) (fun c_44 => ?_) (fun c_44 => ?_)
      · have e9 : d = N i := by omega
        rw [e9] at hP hD hF
        refine lv_aload_n hx hb dX6_copy_63 rfl (lv_at hl 0 rfl) ?_
        refine lv_iload_n hx hb dX6_copy_64 rfl (lv_at hl 2 rfl) ?_
        refine mu_V (As := [.int (nI j)]) (rest := []) (wc := [(m0, .inr (3, [.ref mb, .ref ml, .ref mm, .int (nI (N i)), .int (nI 0), .ref mk])), (mb, .inl (T 0, 1920, .inl fb)), (ml, .inl (T 0, 6, .inl fl)), (mm, .inl (T 0, 600, .inl F))]) (wr := [(mk, .inl (T 0, 320, .inl fk))]) ⟨hx, hb, hml, hown, hts⟩ (c_X6_becomes l D T g H.size m0 mb ml mm mk (N i) (nI 0) fb fl F j (Bw i) hj (hF) (by omega)) (cwV 1 hts gX6_copy_X6_becomes rfl rfl rfl (by decide +kernel) ⟨Nat.le_of_ble_eq_true rfl, Nat.le_of_ble_eq_true rfl⟩) (va_recv hK hP (ci := 3) (q0 := 0) rfl rfl) hP hD hK hG hS hA [0, 1, 2, 3] [4] rfl (by decide) rfl (by decide) (by decide) ⟨Nat.le_of_ble_eq_true rfl, Nat.le_of_ble_eq_true rfl⟩ rfl hl.1 (Nat.le_of_ble_eq_true rfl) dX6_copy_65 rfl (fun u H locs hq4 hP hD hS => ?_)
        obtain ⟨F_3, hu9⟩ : ∃ z, z = u := ⟨_, rfl⟩
        subst hu9
        have hP : va_P D cls [(mk, .inl (T 0, 320, .inl fk)), (m0, .inr (3, [.ref mb, .ref ml, .ref mm, .int (nI (N i)), .int (nI 0), .ref mk])), (mb, .inl (T 0, 1920, .inl F_3)), (ml, .inl (T 0, 6, .inl (upd fl j (nI (N i))))), (mm, .inl (T 0, 600, .inl F))] H := hP
        have hD : va_D A [(mk, .inl (T 0, 320, .inl fk)), (m0, .inr (3, [.ref mb, .ref ml, .ref mm, .int (nI (N i)), .int (nI 0), .ref mk])), (mb, .inl (T 0, 1920, .inl F_3)), (ml, .inl (T 0, 6, .inl (upd fl j (nI (N i))))), (mm, .inl (T 0, 600, .inl F))] := hD
        have hp2 : RW F_3 j (N i) (Bw i) ∧ ∀ q, q < 320 * j ∨ 320 * j + 320 ≤ q → F_3 q = fb q := hq4
        refine W.eq (g2 := F0 m 68 ls [.int (nI (N i))]) rfl ?_
        have hP9 := hP.sub (ws' := [(m0, .inr (3, [.ref mb, .ref ml, .ref mm, .int (nI (N i)), .int (nI 0), .ref mk])), (mb, .inl (T 0, 1920, .inl F_3)), (ml, .inl (T 0, 6, .inl (upd fl j (nI (N i))))), (mm, .inl (T 0, 600, .inl F)), (mk, .inl (T 0, 320, .inl fk))]) [1, 2, 3, 4, 0] rfl
        have hD9 := hD.sub (ws' := [(m0, .inr (3, [.ref mb, .ref ml, .ref mm, .int (nI (N i)), .int (nI 0), .ref mk])), (mb, .inl (T 0, 1920, .inl F_3)), (ml, .inl (T 0, 6, .inl (upd fl j (nI (N i))))), (mm, .inl (T 0, 600, .inl F)), (mk, .inl (T 0, 320, .inl fk))]) [1, 2, 3, 4, 0] (by decide) rfl
        exact W.iret (v := (nI (N i))) hx hb hr (fun t ht hW => ⟨⟨((N i), (nI 0), F_3, upd fl j (nI (N i)), F, fk), rfl, show (nI 0) = nI 0 ∧ MR (upd fl j (nI (N i))) F_3 (upA N j (N i)) (upA Bw j (Bw i)) from ⟨rfl, MR_upd hMR pk_us (fun z _ hne => pk_un hne) hp2.1 hp2.2⟩, (by rw [ht]; exact hP9), va_K.moved hW.alike hK, hD9⟩, hS.F ht⟩) hS.2.2 dX6_copy_68
      · refine lv_aload_n hx hb dX6_copy_47 rfl (lv_at hl 0 rfl) ?_
        refine lv_aload_n hx hb dX6_copy_48 rfl (lv_at hl 0 rfl) ?_
        refine lv_iload_n hx hb dX6_copy_49 rfl (lv_at hl 1 rfl) ?_
        refine lv_iload_n hx hb dX6_copy_50 rfl (lv_at hl 3 rfl) ?_
        refine ro_V (As := [.int (nI i), .int (nI d)]) (rest := [.ref m0]) (wc := [(m0, .inr (3, [.ref mb, .ref ml, .ref mm, .int (nI d), .int (nI 0), .ref mk])), (mb, .inl (T 0, 1920, .inl fb))]) (r := .int (nI ((Bw i) d))) ⟨hx, hb, hml, hown, hts⟩ (c_X6_atB l D T g m0 mb ml mm mk d (nI 0) fb i d (N i) (Bw i) hi (hrow.2) (by omega)) (cwV 2 hts gX6_copy_X6_at rfl rfl rfl (by decide +kernel) ⟨Nat.le_of_ble_eq_true rfl, Nat.le_of_ble_eq_true rfl⟩) (va_recv hK hP (ci := 3) (q0 := 0) rfl rfl) hP hK hG hS [0, 1] rfl ⟨Nat.zero_le _, Nat.zero_le _⟩ rfl hl.1 (Nat.le_of_ble_eq_true rfl) dX6_copy_51 rfl ?_
        refine mu_V (As := [.int (nI ((Bw i) d))]) (rest := []) (wc := [(m0, .inr (3, [.ref mb, .ref ml, .ref mm, .int (nI d), .int (nI 0), .ref mk])), (mm, .inl (T 0, 600, .inl F))]) (wr := [(mb, .inl (T 0, 1920, .inl fb)), (ml, .inl (T 0, 6, .inl fl)), (mk, .inl (T 0, 320, .inl fk))]) ⟨hx, hb, hml, hown, hts⟩ (c_X6_makes l D T g H.size m0 mb ml mm mk d (nI 0) F (nI ((Bw i) d)) (by omega)) (cwV 1 hts gX6_copy_X6_makes rfl rfl rfl (by decide +kernel) ⟨Nat.le_of_ble_eq_true rfl, Nat.le_of_ble_eq_true rfl⟩) (va_recv hK hP (ci := 3) (q0 := 0) rfl rfl) hP hD hK hG hS hA [0, 3] [1, 2, 4] rfl (by decide) rfl (by decide) (by decide) ⟨Nat.le_of_ble_eq_true rfl, Nat.le_of_ble_eq_true rfl⟩ rfl hl.1 (Nat.le_of_ble_eq_true rfl) dX6_copy_54 rfl (fun u H locs hq5 hP hD hS => ?_)
        have hP : va_P D cls [(mb, .inl (T 0, 1920, .inl fb)), (ml, .inl (T 0, 6, .inl fl)), (mk, .inl (T 0, 320, .inl fk)), (m0, .inr (3, [.ref mb, .ref ml, .ref mm, .int (nI (d + 1)), .int (nI 0), .ref mk])), (mm, .inl (T 0, 600, .inl (upd F d (nI ((Bw i) d)))))] H := hP
        have hD : va_D A [(mb, .inl (T 0, 1920, .inl fb)), (ml, .inl (T 0, 6, .inl fl)), (mk, .inl (T 0, 320, .inl fk)), (m0, .inr (3, [.ref mb, .ref ml, .ref mm, .int (nI (d + 1)), .int (nI 0), .ref mk])), (mm, .inl (T 0, 600, .inl (upd F d (nI ((Bw i) d)))))] := hD
        refine W.eq (g2 := F0 m 57 ls []) rfl ?_
        refine lv_iinc (v := (nI (d + 1))) (lv' := [(3, .int (nI (d + 1))), (0, .ref m0), (1, .int (nI i)), (2, .int (nI j))]) hx hb dX6_copy_57 hl (k := 3) rfl (ni_inc1 _) (by decide) rfl (fun ls hl => ?_)
        refine lv_goto (tgt := 37) hx hb dX6_copy_60 (by decide) ?_
        exact ih_37 (d + 1) (upd F d (nI ((Bw i) d))) (by omega) (MD_next hF (by omega) rfl (hrow.2.2 _ (by omega)).2) (by omega) _ _ (hP.sub (ws' := [(m0, .inr (3, [.ref mb, .ref ml, .ref mm, .int (nI (d + 1)), .int (nI 0), .ref mk])), (mb, .inl (T 0, 1920, .inl fb)), (ml, .inl (T 0, 6, .inl fl)), (mm, .inl (T 0, 600, .inl (upd F d (nI ((Bw i) d))))), (mk, .inl (T 0, 320, .inl fk))]) [3, 0, 1, 4, 2] rfl) (hD.sub (ws' := [(m0, .inr (3, [.ref mb, .ref ml, .ref mm, .int (nI (d + 1)), .int (nI 0), .ref mk])), (mb, .inl (T 0, 1920, .inl fb)), (ml, .inl (T 0, 6, .inl fl)), (mm, .inl (T 0, 600, .inl (upd F d (nI ((Bw i) d))))), (mk, .inl (T 0, 320, .inl fk))]) [3, 0, 1, 4, 2] (by decide) rfl) hS ls (lv_sub hl [1, 2, 3, 0] rfl)
  exact K2 _ 0 fm (by omega) (MD_zero _ _) (Nat.lt_succ_self _) H locs (hP.sub (ws' := [(m0, .inr (3, [.ref mb, .ref ml, .ref mm, .int (nI 0), .int (nI 0), .ref mk])), (mb, .inl (T 0, 1920, .inl fb)), (ml, .inl (T 0, 6, .inl fl)), (mm, .inl (T 0, 600, .inl fm)), (mk, .inl (T 0, 320, .inl fk))]) [4, 0, 1, 2, 3] rfl) (hD.sub (ws' := [(m0, .inr (3, [.ref mb, .ref ml, .ref mm, .int (nI 0), .int (nI 0), .ref mk])), (mb, .inl (T 0, 1920, .inl fb)), (ml, .inl (T 0, 6, .inl fl)), (mm, .inl (T 0, 600, .inl fm)), (mk, .inl (T 0, 320, .inl fk))]) [4, 0, 1, 2, 3] (by decide) rfl) hS ls (lv_sub hl [1, 2, 3, 0] rfl)
set_option maxHeartbeats 4000000 in
set_option maxRecDepth 100000 in
theorem m_isLike_1 (l : Launch) (D : va_G) (T : Nat → ClassId) (g : Nat → Nat) (sz : Nat) (m0 : Nat) (mb : Nat) (ml : Nat) (mm : Nat) (mk : Nat) (many : Nat) (th : Int32) (fb : Nat → Int32) (fl : Nat → Int32) (fm : Nat → Int32) (fk : Nat → Int32) (N : Nat → Nat) (Bw : Nat → Nat → Nat) (hMR : MR fl fb N Bw) (i : Int32) (hi : i < 0 ∨ nI 5 < i) (x0 : Int32) : MU l yX6_isLike wsX6_isLike ({ frames := 60, cells := 0, slots := 0, locals := 3000 } : Room) D T g [.ref m0, .int i, .int x0] [(m0, .inr (3, [.ref mb, .ref ml, .ref mm, .int (nI many), .int th, .ref mk])), (mb, .inl (T 0, 1920, .inl fb)), (ml, .inl (T 0, 6, .inl fl)), (mm, .inl (T 0, 600, .inl fm)), (mk, .inl (T 0, 320, .inl fk))] sz (fun u : Nat × Int32 × (Nat → Int32) × (Nat → Int32) × (Nat → Int32) × (Nat → Int32) => some (.int (nI 0))) (fun u : Nat × Int32 × (Nat → Int32) × (Nat → Int32) × (Nat → Int32) × (Nat → Int32) => u.2.1 = nI 1 ∧ MR u.2.2.2.1 u.2.2.1 (N) (Bw)) (fun u : Nat × Int32 × (Nat → Int32) × (Nat → Int32) × (Nat → Int32) × (Nat → Int32) => [(m0, .inr (3, [.ref mb, .ref ml, .ref mm, .int (nI u.1), .int u.2.1, .ref mk])), (mb, .inl (T 0, 1920, .inl u.2.2.1)), (ml, .inl (T 0, 6, .inl u.2.2.2.1)), (mm, .inl (T 0, 600, .inl u.2.2.2.2.1)), (mk, .inl (T 0, 320, .inl u.2.2.2.2.2))]) 0 0 := by
  refine Met.ofW (cc := cX6_isLike) (maxL := 5) (ret := (some .boolean)) (by decide) rfl ?_
  intro p e s m args below meth c s₁ B hml hv
  obtain ⟨rfl, hsz, hP, hK, hD0, hG⟩ := hv
  have hx := B.exec
  have hb := B.bytes
  have hr := B.returns
  have hts := atoms_spec (ws := wsX6_isLike) B.pre
  have hown : s.vm.findClass RX6 = some m.cls := findClass_of_methodNamed B.named
  have hlocks := B.notSynchronized
  subst hsz
  have hD := hD0.self (sz := s.heap.size)
  generalize hAe : va_A [(m0, .inr (3, [.ref mb, .ref ml, .ref mm, .int (nI many), .int th, .ref mk])), (mb, .inl (T 0, 1920, .inl fb)), (ml, .inl (T 0, 6, .inl fl)), (mm, .inl (T 0, 600, .inl fm)), (mk, .inl (T 0, 320, .inl fk))] s.heap.size = A at hD hG ⊢
  have hA : ∀ q : Nat, s.heap.size ≤ q → A q := fun q h => by rw [← hAe]; exact Or.inr h
  have hS : va_S A s.heap s.heap [] := va_S.rf
  have hP : va_P D cls [(m0, .inr (3, [.ref mb, .ref ml, .ref mm, .int (nI many), .int th, .ref mk])), (mb, .inl (T 0, 1920, .inl fb)), (ml, .inl (T 0, 6, .inl fl)), (mm, .inl (T 0, 600, .inl fm)), (mk, .inl (T 0, 320, .inl fk))] s.heap := hP
  have hl := lv_entry ([.ref m0, .int i, .int x0]) (n := 5) (Nat.le_of_ble_eq_true rfl)
  rw [lg_entry_eq]
  generalize (lg_sl ([.ref m0, .int i, .int x0]) ++ List.replicate (5 - (lg_sl ([.ref m0, .int i, .int x0])).length) Slot.unset).toArray = ls at hl ⊢
  have hl : lv_has ls 5 [(0, .ref m0), (1, .int i), (2, .int x0)] := hl
  refine lv_aload_n hx hb dX6_isLike_0 rfl (lv_at hl 0 rfl) ?_
  refine lv_aload_n hx hb dX6_isLike_1 rfl (lv_at hl 0 rfl) ?_
  refine lv_iload_n hx hb dX6_isLike_2 rfl (lv_at hl 1 rfl) ?_
  refine ro_V (As := [.int i]) (rest := [.ref m0]) (wc := []) (r := .int (nI 0)) ⟨hx, hb, hml, hown, hts⟩ (c_X6_isRow_n l D T g m0 i hi) (cwV 1 hts gX6_isLike_X6_isRow rfl rfl rfl (by decide +kernel) ⟨Nat.le_of_ble_eq_true rfl, Nat.le_of_ble_eq_true rfl⟩) (va_recv hK hP (ci := 3) (q0 := 0) rfl rfl) hP hK hG hS [] rfl ⟨Nat.zero_le _, Nat.zero_le _⟩ rfl hl.1 (Nat.le_of_ble_eq_true rfl) dX6_isLike_3 rfl ?_
  refine ln_if_eq_t (tgt := 21) hx hb (by omega) (by decide) dX6_isLike_6 (by decide) ?_
  refine lv_iconst (v := (nI 1)) hx hb dX6_isLike_21 (by decide +kernel) ?_
  refine mu_V (As := [.int (nI 1)]) (rest := []) (wc := [(m0, .inr (3, [.ref mb, .ref ml, .ref mm, .int (nI many), .int th, .ref mk]))]) (wr := [(mb, .inl (T 0, 1920, .inl fb)), (ml, .inl (T 0, 6, .inl fl)), (mm, .inl (T 0, 600, .inl fm)), (mk, .inl (T 0, 320, .inl fk))]) ⟨hx, hb, hml, hown, hts⟩ (c_X6_isWrong_p l D T g s.heap.size m0 mb ml mm mk many th 1 (by omega)) (cwV 1 hts gX6_isLike_X6_isWrong rfl rfl rfl (by decide +kernel) ⟨Nat.le_of_ble_eq_true rfl, Nat.le_of_ble_eq_true rfl⟩) (va_recv hK hP (ci := 3) (q0 := 0) rfl rfl) hP hD hK hG hS hA [0] [1, 2, 3, 4] rfl (by decide) rfl (by decide) (by decide) ⟨Nat.le_of_ble_eq_true rfl, Nat.le_of_ble_eq_true rfl⟩ rfl hl.1 (Nat.le_of_ble_eq_true rfl) dX6_isLike_22 rfl (fun u H locs hq1 hP hD hS => ?_)
  have hP : va_P D cls [(mb, .inl (T 0, 1920, .inl fb)), (ml, .inl (T 0, 6, .inl fl)), (mm, .inl (T 0, 600, .inl fm)), (mk, .inl (T 0, 320, .inl fk)), (m0, .inr (3, [.ref mb, .ref ml, .ref mm, .int (nI many), .int (nI 1), .ref mk]))] H := hP
  have hD : va_D A [(mb, .inl (T 0, 1920, .inl fb)), (ml, .inl (T 0, 6, .inl fl)), (mm, .inl (T 0, 600, .inl fm)), (mk, .inl (T 0, 320, .inl fk)), (m0, .inr (3, [.ref mb, .ref ml, .ref mm, .int (nI many), .int (nI 1), .ref mk]))] := hD
  refine W.eq (g2 := F0 m 25 ls [.int (nI 1)]) rfl ?_
  refine ln_if_eq_f (tgt := 30) hx hb (by omega) (by decide) dX6_isLike_25 (by decide) ?_
  refine lv_iconst (v := (nI 0)) hx hb dX6_isLike_28 (by decide +kernel) ?_
  have hP9 := hP.sub (ws' := [(m0, .inr (3, [.ref mb, .ref ml, .ref mm, .int (nI many), .int (nI 1), .ref mk])), (mb, .inl (T 0, 1920, .inl fb)), (ml, .inl (T 0, 6, .inl fl)), (mm, .inl (T 0, 600, .inl fm)), (mk, .inl (T 0, 320, .inl fk))]) [4, 0, 1, 2, 3] rfl
  have hD9 := hD.sub (ws' := [(m0, .inr (3, [.ref mb, .ref ml, .ref mm, .int (nI many), .int (nI 1), .ref mk])), (mb, .inl (T 0, 1920, .inl fb)), (ml, .inl (T 0, 6, .inl fl)), (mm, .inl (T 0, 600, .inl fm)), (mk, .inl (T 0, 320, .inl fk))]) [4, 0, 1, 2, 3] (by decide) rfl
  exact W.zret (v := (nI 0)) (ty := .boolean) hx hb hr (rfl) (fun t ht hW => ⟨⟨(many, (nI 1), fb, fl, fm, fk), rfl, show (nI 1) = nI 1 ∧ MR fl fb (N) (Bw) from ⟨rfl, hMR⟩, (by rw [ht]; exact hP9), va_K.moved hW.alike hK, hD9⟩, hS.F ht⟩) hS.2.2 dX6_isLike_29
set_option maxHeartbeats 4000000 in
set_option maxRecDepth 100000 in
theorem m_isLike_2 (l : Launch) (D : va_G) (T : Nat → ClassId) (g : Nat → Nat) (sz : Nat) (m0 : Nat) (mb : Nat) (ml : Nat) (mm : Nat) (mk : Nat) (many : Nat) (th : Int32) (fb : Nat → Int32) (fl : Nat → Int32) (fm : Nat → Int32) (fk : Nat → Int32) (N : Nat → Nat) (Bw : Nat → Nat → Nat) (hMR : MR fl fb N Bw) (i : Nat) (hi : i < 6) (j : Int32) (hj : j < 0 ∨ nI 5 < j) : MU l yX6_isLike wsX6_isLike ({ frames := 60, cells := 0, slots := 0, locals := 3000 } : Room) D T g [.ref m0, .int (nI i), .int j] [(m0, .inr (3, [.ref mb, .ref ml, .ref mm, .int (nI many), .int th, .ref mk])), (mb, .inl (T 0, 1920, .inl fb)), (ml, .inl (T 0, 6, .inl fl)), (mm, .inl (T 0, 600, .inl fm)), (mk, .inl (T 0, 320, .inl fk))] sz (fun u : Nat × Int32 × (Nat → Int32) × (Nat → Int32) × (Nat → Int32) × (Nat → Int32) => some (.int (nI 0))) (fun u : Nat × Int32 × (Nat → Int32) × (Nat → Int32) × (Nat → Int32) × (Nat → Int32) => u.2.1 = nI 1 ∧ MR u.2.2.2.1 u.2.2.1 (N) (Bw)) (fun u : Nat × Int32 × (Nat → Int32) × (Nat → Int32) × (Nat → Int32) × (Nat → Int32) => [(m0, .inr (3, [.ref mb, .ref ml, .ref mm, .int (nI u.1), .int u.2.1, .ref mk])), (mb, .inl (T 0, 1920, .inl u.2.2.1)), (ml, .inl (T 0, 6, .inl u.2.2.2.1)), (mm, .inl (T 0, 600, .inl u.2.2.2.2.1)), (mk, .inl (T 0, 320, .inl u.2.2.2.2.2))]) 0 0 := by
  refine Met.ofW (cc := cX6_isLike) (maxL := 5) (ret := (some .boolean)) (by decide) rfl ?_
  intro p e s m args below meth c s₁ B hml hv
  obtain ⟨rfl, hsz, hP, hK, hD0, hG⟩ := hv
  have hx := B.exec
  have hb := B.bytes
  have hr := B.returns
  have hts := atoms_spec (ws := wsX6_isLike) B.pre
  have hown : s.vm.findClass RX6 = some m.cls := findClass_of_methodNamed B.named
  have hlocks := B.notSynchronized
  subst hsz
  have hD := hD0.self (sz := s.heap.size)
  generalize hAe : va_A [(m0, .inr (3, [.ref mb, .ref ml, .ref mm, .int (nI many), .int th, .ref mk])), (mb, .inl (T 0, 1920, .inl fb)), (ml, .inl (T 0, 6, .inl fl)), (mm, .inl (T 0, 600, .inl fm)), (mk, .inl (T 0, 320, .inl fk))] s.heap.size = A at hD hG ⊢
  have hA : ∀ q : Nat, s.heap.size ≤ q → A q := fun q h => by rw [← hAe]; exact Or.inr h
  have hS : va_S A s.heap s.heap [] := va_S.rf
  have hP : va_P D cls [(m0, .inr (3, [.ref mb, .ref ml, .ref mm, .int (nI many), .int th, .ref mk])), (mb, .inl (T 0, 1920, .inl fb)), (ml, .inl (T 0, 6, .inl fl)), (mm, .inl (T 0, 600, .inl fm)), (mk, .inl (T 0, 320, .inl fk))] s.heap := hP
  have hl := lv_entry ([.ref m0, .int (nI i), .int j]) (n := 5) (Nat.le_of_ble_eq_true rfl)
  rw [lg_entry_eq]
  generalize (lg_sl ([.ref m0, .int (nI i), .int j]) ++ List.replicate (5 - (lg_sl ([.ref m0, .int (nI i), .int j])).length) Slot.unset).toArray = ls at hl ⊢
  have hl : lv_has ls 5 [(0, .ref m0), (1, .int (nI i)), (2, .int j)] := hl
  refine lv_aload_n hx hb dX6_isLike_0 rfl (lv_at hl 0 rfl) ?_
  refine lv_aload_n hx hb dX6_isLike_1 rfl (lv_at hl 0 rfl) ?_
  refine lv_iload_n hx hb dX6_isLike_2 rfl (lv_at hl 1 rfl) ?_
  refine ro_V (As := [.int (nI i)]) (rest := [.ref m0]) (wc := []) (r := .int (nI 1)) ⟨hx, hb, hml, hown, hts⟩ (c_X6_isRow_y l D T g m0 i (by omega)) (cwV 1 hts gX6_isLike_X6_isRow rfl rfl rfl (by decide +kernel) ⟨Nat.le_of_ble_eq_true rfl, Nat.le_of_ble_eq_true rfl⟩) (va_recv hK hP (ci := 3) (q0 := 0) rfl rfl) hP hK hG hS [] rfl ⟨Nat.zero_le _, Nat.zero_le _⟩ rfl hl.1 (Nat.le_of_ble_eq_true rfl) dX6_isLike_3 rfl ?_
  refine ln_if_eq_f (tgt := 21) hx hb (by omega) (by decide) dX6_isLike_6 (by decide) ?_
  refine lv_aload_n hx hb dX6_isLike_9 rfl (lv_at hl 0 rfl) ?_
  refine lv_iload_n hx hb dX6_isLike_10 rfl (lv_at hl 2 rfl) ?_
  refine ro_V (As := [.int j]) (rest := [.ref m0]) (wc := []) (r := .int (nI 0)) ⟨hx, hb, hml, hown, hts⟩ (c_X6_isRow_n l D T g m0 j hj) (cwV 1 hts gX6_isLike_X6_isRow rfl rfl rfl (by decide +kernel) ⟨Nat.le_of_ble_eq_true rfl, Nat.le_of_ble_eq_true rfl⟩) (va_recv hK hP (ci := 3) (q0 := 0) rfl rfl) hP hK hG hS [] rfl ⟨Nat.zero_le _, Nat.zero_le _⟩ rfl hl.1 (Nat.le_of_ble_eq_true rfl) dX6_isLike_11 rfl ?_
  refine ln_if_eq_t (tgt := 21) hx hb (by omega) (by decide) dX6_isLike_14 (by decide) ?_
  refine lv_iconst (v := (nI 1)) hx hb dX6_isLike_21 (by decide +kernel) ?_
  refine mu_V (As := [.int (nI 1)]) (rest := []) (wc := [(m0, .inr (3, [.ref mb, .ref ml, .ref mm, .int (nI many), .int th, .ref mk]))]) (wr := [(mb, .inl (T 0, 1920, .inl fb)), (ml, .inl (T 0, 6, .inl fl)), (mm, .inl (T 0, 600, .inl fm)), (mk, .inl (T 0, 320, .inl fk))]) ⟨hx, hb, hml, hown, hts⟩ (c_X6_isWrong_p l D T g s.heap.size m0 mb ml mm mk many th 1 (by omega)) (cwV 1 hts gX6_isLike_X6_isWrong rfl rfl rfl (by decide +kernel) ⟨Nat.le_of_ble_eq_true rfl, Nat.le_of_ble_eq_true rfl⟩) (va_recv hK hP (ci := 3) (q0 := 0) rfl rfl) hP hD hK hG hS hA [0] [1, 2, 3, 4] rfl (by decide) rfl (by decide) (by decide) ⟨Nat.le_of_ble_eq_true rfl, Nat.le_of_ble_eq_true rfl⟩ rfl hl.1 (Nat.le_of_ble_eq_true rfl) dX6_isLike_22 rfl (fun u H locs hq1 hP hD hS => ?_)
  have hP : va_P D cls [(mb, .inl (T 0, 1920, .inl fb)), (ml, .inl (T 0, 6, .inl fl)), (mm, .inl (T 0, 600, .inl fm)), (mk, .inl (T 0, 320, .inl fk)), (m0, .inr (3, [.ref mb, .ref ml, .ref mm, .int (nI many), .int (nI 1), .ref mk]))] H := hP
  have hD : va_D A [(mb, .inl (T 0, 1920, .inl fb)), (ml, .inl (T 0, 6, .inl fl)), (mm, .inl (T 0, 600, .inl fm)), (mk, .inl (T 0, 320, .inl fk)), (m0, .inr (3, [.ref mb, .ref ml, .ref mm, .int (nI many), .int (nI 1), .ref mk]))] := hD
  refine W.eq (g2 := F0 m 25 ls [.int (nI 1)]) rfl ?_
  refine ln_if_eq_f (tgt := 30) hx hb (by omega) (by decide) dX6_isLike_25 (by decide) ?_
  refine lv_iconst (v := (nI 0)) hx hb dX6_isLike_28 (by decide +kernel) ?_
  have hP9 := hP.sub (ws' := [(m0, .inr (3, [.ref mb, .ref ml, .ref mm, .int (nI many), .int (nI 1), .ref mk])), (mb, .inl (T 0, 1920, .inl fb)), (ml, .inl (T 0, 6, .inl fl)), (mm, .inl (T 0, 600, .inl fm)), (mk, .inl (T 0, 320, .inl fk))]) [4, 0, 1, 2, 3] rfl
  have hD9 := hD.sub (ws' := [(m0, .inr (3, [.ref mb, .ref ml, .ref mm, .int (nI many), .int (nI 1), .ref mk])), (mb, .inl (T 0, 1920, .inl fb)), (ml, .inl (T 0, 6, .inl fl)), (mm, .inl (T 0, 600, .inl fm)), (mk, .inl (T 0, 320, .inl fk))]) [4, 0, 1, 2, 3] (by decide) rfl
  exact W.zret (v := (nI 0)) (ty := .boolean) hx hb hr (rfl) (fun t ht hW => ⟨⟨(many, (nI 1), fb, fl, fm, fk), rfl, show (nI 1) = nI 1 ∧ MR fl fb (N) (Bw) from ⟨rfl, hMR⟩, (by rw [ht]; exact hP9), va_K.moved hW.alike hK, hD9⟩, hS.F ht⟩) hS.2.2 dX6_isLike_29
set_option maxHeartbeats 4000000 in
set_option maxRecDepth 100000 in
theorem m_isLike (l : Launch) (D : va_G) (T : Nat → ClassId) (g : Nat → Nat) (sz : Nat) (m0 : Nat) (mb : Nat) (ml : Nat) (mm : Nat) (mk : Nat) (many : Nat) (th : Int32) (fb : Nat → Int32) (fl : Nat → Int32) (fm : Nat → Int32) (fk : Nat → Int32) (N : Nat → Nat) (Bw : Nat → Nat → Nat) (hMR : MR fl fb N Bw) (i : Nat) (hi : i < 6) (j : Nat) (hj : j < 6) : MU l yX6_isLike wsX6_isLike ({ frames := 60, cells := 0, slots := 0, locals := 3000 } : Room) D T g [.ref m0, .int (nI i), .int (nI j)] [(m0, .inr (3, [.ref mb, .ref ml, .ref mm, .int (nI many), .int th, .ref mk])), (mb, .inl (T 0, 1920, .inl fb)), (ml, .inl (T 0, 6, .inl fl)), (mm, .inl (T 0, 600, .inl fm)), (mk, .inl (T 0, 320, .inl fk))] sz (fun u : Nat × Int32 × (Nat → Int32) × (Nat → Int32) × (Nat → Int32) × (Nat → Int32) => some (.int (bI (saB (N i) (Bw i) (N j) (Bw j))))) (fun u : Nat × Int32 × (Nat → Int32) × (Nat → Int32) × (Nat → Int32) × (Nat → Int32) => u.2.1 = nI 0 ∧ MR u.2.2.2.1 u.2.2.1 (N) (Bw)) (fun u : Nat × Int32 × (Nat → Int32) × (Nat → Int32) × (Nat → Int32) × (Nat → Int32) => [(m0, .inr (3, [.ref mb, .ref ml, .ref mm, .int (nI u.1), .int u.2.1, .ref mk])), (mb, .inl (T 0, 1920, .inl u.2.2.1)), (ml, .inl (T 0, 6, .inl u.2.2.2.1)), (mm, .inl (T 0, 600, .inl u.2.2.2.2.1)), (mk, .inl (T 0, 320, .inl u.2.2.2.2.2))]) 0 0 := by
  refine Met.ofW (cc := cX6_isLike) (maxL := 5) (ret := (some .boolean)) (by decide) rfl ?_
  intro p e s m args below meth c s₁ B hml hv
  obtain ⟨rfl, hsz, hP, hK, hD0, hG⟩ := hv
  have hx := B.exec
  have hb := B.bytes
  have hr := B.returns
  have hts := atoms_spec (ws := wsX6_isLike) B.pre
  have hown : s.vm.findClass RX6 = some m.cls := findClass_of_methodNamed B.named
  have hlocks := B.notSynchronized
  have hi_X6 : ∀ w ∈ wsX60, w ∈ wsX6_isLike := by decide +kernel
  subst hsz
  have hD := hD0.self (sz := s.heap.size)
  generalize hAe : va_A [(m0, .inr (3, [.ref mb, .ref ml, .ref mm, .int (nI many), .int th, .ref mk])), (mb, .inl (T 0, 1920, .inl fb)), (ml, .inl (T 0, 6, .inl fl)), (mm, .inl (T 0, 600, .inl fm)), (mk, .inl (T 0, 320, .inl fk))] s.heap.size = A at hD hG ⊢
  have hA : ∀ q : Nat, s.heap.size ≤ q → A q := fun q h => by rw [← hAe]; exact Or.inr h
  have hS : va_S A s.heap s.heap [] := va_S.rf
  have hP : va_P D cls [(m0, .inr (3, [.ref mb, .ref ml, .ref mm, .int (nI many), .int th, .ref mk])), (mb, .inl (T 0, 1920, .inl fb)), (ml, .inl (T 0, 6, .inl fl)), (mm, .inl (T 0, 600, .inl fm)), (mk, .inl (T 0, 320, .inl fk))] s.heap := hP
  have hl := lv_entry ([.ref m0, .int (nI i), .int (nI j)]) (n := 5) (Nat.le_of_ble_eq_true rfl)
  rw [lg_entry_eq]
  generalize (lg_sl ([.ref m0, .int (nI i), .int (nI j)]) ++ List.replicate (5 - (lg_sl ([.ref m0, .int (nI i), .int (nI j)])).length) Slot.unset).toArray = ls at hl ⊢
  have hl : lv_has ls 5 [(0, .ref m0), (1, .int (nI i)), (2, .int (nI j))] := hl
  have hrow := hMR i hi
  have hn := hrow.2.1
  have hrj := hMR j hj
  refine lv_aload_n hx hb dX6_isLike_0 rfl (lv_at hl 0 rfl) ?_
  refine lv_aload_n hx hb dX6_isLike_1 rfl (lv_at hl 0 rfl) ?_
  refine lv_iload_n hx hb dX6_isLike_2 rfl (lv_at hl 1 rfl) ?_
  refine ro_V (As := [.int (nI i)]) (rest := [.ref m0]) (wc := []) (r := .int (nI 1)) ⟨hx, hb, hml, hown, hts⟩ (c_X6_isRow_y l D T g m0 i (by omega)) (cwV 1 hts gX6_isLike_X6_isRow rfl rfl rfl (by decide +kernel) ⟨Nat.le_of_ble_eq_true rfl, Nat.le_of_ble_eq_true rfl⟩) (va_recv hK hP (ci := 3) (q0 := 0) rfl rfl) hP hK hG hS [] rfl ⟨Nat.zero_le _, Nat.zero_le _⟩ rfl hl.1 (Nat.le_of_ble_eq_true rfl) dX6_isLike_3 rfl ?_
  refine ln_if_eq_f (tgt := 21) hx hb (by omega) (by decide) dX6_isLike_6 (by decide) ?_
  refine lv_aload_n hx hb dX6_isLike_9 rfl (lv_at hl 0 rfl) ?_
  refine lv_iload_n hx hb dX6_isLike_10 rfl (lv_at hl 2 rfl) ?_
  refine ro_V (As := [.int (nI j)]) (rest := [.ref m0]) (wc := []) (r := .int (nI 1)) ⟨hx, hb, hml, hown, hts⟩ (c_X6_isRow_y l D T g m0 j (by omega)) (cwV 1 hts gX6_isLike_X6_isRow rfl rfl rfl (by decide +kernel) ⟨Nat.le_of_ble_eq_true rfl, Nat.le_of_ble_eq_true rfl⟩) (va_recv hK hP (ci := 3) (q0 := 0) rfl rfl) hP hK hG hS [] rfl ⟨Nat.zero_le _, Nat.zero_le _⟩ rfl hl.1 (Nat.le_of_ble_eq_true rfl) dX6_isLike_11 rfl ?_
  refine ln_if_eq_f (tgt := 21) hx hb (by omega) (by decide) dX6_isLike_14 (by decide) ?_
  refine lv_iconst (v := (nI 0)) hx hb dX6_isLike_17 (by decide +kernel) ?_
  refine lv_goto (tgt := 22) hx hb dX6_isLike_18 (by decide) ?_
  refine mu_V (As := [.int (nI 0)]) (rest := []) (wc := [(m0, .inr (3, [.ref mb, .ref ml, .ref mm, .int (nI many), .int th, .ref mk]))]) (wr := [(mb, .inl (T 0, 1920, .inl fb)), (ml, .inl (T 0, 6, .inl fl)), (mm, .inl (T 0, 600, .inl fm)), (mk, .inl (T 0, 320, .inl fk))]) ⟨hx, hb, hml, hown, hts⟩ (c_X6_isWrong_0 l D T g s.heap.size m0 mb ml mm mk many th) (cwV 1 hts gX6_isLike_X6_isWrong rfl rfl rfl (by decide +kernel) ⟨Nat.le_of_ble_eq_true rfl, Nat.le_of_ble_eq_true rfl⟩) (va_recv hK hP (ci := 3) (q0 := 0) rfl rfl) hP hD hK hG hS hA [0] [1, 2, 3, 4] rfl (by decide) rfl (by decide) (by decide) ⟨Nat.le_of_ble_eq_true rfl, Nat.le_of_ble_eq_true rfl⟩ rfl hl.1 (Nat.le_of_ble_eq_true rfl) dX6_isLike_22 rfl (fun u H locs hq1 hP hD hS => ?_)
  have hP : va_P D cls [(mb, .inl (T 0, 1920, .inl fb)), (ml, .inl (T 0, 6, .inl fl)), (mm, .inl (T 0, 600, .inl fm)), (mk, .inl (T 0, 320, .inl fk)), (m0, .inr (3, [.ref mb, .ref ml, .ref mm, .int (nI many), .int (nI 0), .ref mk]))] H := hP
  have hD : va_D A [(mb, .inl (T 0, 1920, .inl fb)), (ml, .inl (T 0, 6, .inl fl)), (mm, .inl (T 0, 600, .inl fm)), (mk, .inl (T 0, 320, .inl fk)), (m0, .inr (3, [.ref mb, .ref ml, .ref mm, .int (nI many), .int (nI 0), .ref mk]))] := hD
  refine W.eq (g2 := F0 m 25 ls [.int (nI 0)]) rfl ?_
  refine ln_if_eq_t (tgt := 30) hx hb (by omega) (by decide) dX6_isLike_25 (by decide) ?_
  refine lv_aload_n hx hb dX6_isLike_30 rfl (lv_at hl 0 rfl) ?_
  refine va_get (D := D) (ci := 3) (v := .ref ml) (C := RX6) (T := TX6) (N := 6) hx hb hts hi_X6 hown hK hP 4 rfl rfl 1 (by decide) (hts _ (List.mem_of_getElem? (i := 1) rfl)) (fun _ h9 => h9) rfl dX6_isLike_31 ?_
  refine lv_iload_n hx hb dX6_isLike_34 rfl (lv_at hl 1 rfl) ?_
  refine ln_iald hx hb hK hP 1 0 rfl rfl ⟨by omega, by omega⟩ dX6_isLike_35 ?_
  rw [show fl i = nI (N i) from hrow.1]
  refine lv_aload_n hx hb dX6_isLike_36 rfl (lv_at hl 0 rfl) ?_
  refine va_get (D := D) (ci := 3) (v := .ref ml) (C := RX6) (T := TX6) (N := 6) hx hb hts hi_X6 hown hK hP 4 rfl rfl 1 (by decide) (hts _ (List.mem_of_getElem? (i := 1) rfl)) (fun _ h9 => h9) rfl dX6_isLike_37 ?_
  refine lv_iload_n hx hb dX6_isLike_40 rfl (lv_at hl 2 rfl) ?_
  refine ln_iald hx hb hK hP 1 0 rfl rfl ⟨by omega, by omega⟩ dX6_isLike_41 ?_
  rw [show fl j = nI (N j) from hrj.1]
  have hn2 := hrj.2.1
  refine ln_icmp_ne (tgt := 49) hx hb ⟨by omega, by omega⟩ dX6_isLike_42 (by decide) (fun c_42 => ?_) (fun c_42 => ?_)
  · refine lv_iconst (v := (nI 0)) hx hb dX6_isLike_49 (by decide +kernel) ?_
    rw [show nI 0 = bI false from rfl]
    refine lv_istore_n (lv' := [(3, .int (bI false)), (0, .ref m0), (1, .int (nI i)), (2, .int (nI j))]) hx hb dX6_isLike_50 rfl hl (by decide) rfl (fun ls hl => ?_)
    refine lv_iconst (v := (nI 0)) hx hb dX6_isLike_51 (by decide +kernel) ?_
    refine lv_istore (lv' := [(4, .int (nI 0)), (3, .int (bI false)), (0, .ref m0), (1, .int (nI i)), (2, .int (nI j))]) hx hb dX6_isLike_52 hl (by decide) rfl (fun ls hl => ?_)
    have K2 : ∀ (N9 : Nat) (d : Nat) (r : Bool), (r = true → d ≤ N i) → (r = true ↔ (N i = N j ∧ ∀ x, x < d → Bw i x = Bw j x)) → (d ≤ N i) → N i - d < N9 → ∀ ls : Array Slot, lv_has ls 5 [(0, .ref m0), (1, .int (nI i)), (2, .int (nI j)), (3, .int (bI r)), (4, .int (nI d))] → W p l e (headSpec wsX6_isLike ({ frames := 60, cells := 0, slots := 0, locals := 3000 } : Room)).room s m ([.ref m0, .int (nI i), .int (nI j)] : List Value).toArray below meth c H locs 0 0 (MQ below (QM D T A (fun u : Nat × Int32 × (Nat → Int32) × (Nat → Int32) × (Nat → Int32) × (Nat → Int32) => some (.int (bI (saB (N i) (Bw i) (N j) (Bw j))))) (fun u : Nat × Int32 × (Nat → Int32) × (Nat → Int32) × (Nat → Int32) × (Nat → Int32) => u.2.1 = nI 0 ∧ MR u.2.2.2.1 u.2.2.1 (N) (Bw)) (fun u : Nat × Int32 × (Nat → Int32) × (Nat → Int32) × (Nat → Int32) × (Nat → Int32) => [(m0, .inr (3, [.ref mb, .ref ml, .ref mm, .int (nI u.1), .int u.2.1, .ref mk])), (mb, .inl (T 0, 1920, .inl u.2.2.1)), (ml, .inl (T 0, 6, .inl u.2.2.2.1)), (mm, .inl (T 0, 600, .inl u.2.2.2.2.1)), (mk, .inl (T 0, 320, .inl u.2.2.2.2.2))])) ([.ref m0, .int (nI i), .int (nI j)] : List Value).toArray s 0 0 A) (F0 m 54 ls []) := by
      intro N9
      induction N9 with
      | zero => intro d r hd hr9 hd2 h9; exact absurd h9 (Nat.not_lt_zero _)
      | succ N9 ih_54 =>
        intro d r hd hr9 hd2 h9 ls hl
        refine lv_iload_n hx hb dX6_isLike_54 rfl (lv_at hl 3 rfl) ?_
        refine lv_if_eq (tgt := 98) hx hb dX6_isLike_55 (by decide) (fun c_55 => ?_) (fun c_55 => ?_)
        · refine lv_iload_n hx hb dX6_isLike_98 rfl (lv_at hl 3 rfl) ?_
          have hP9 := hP.sub (ws' := [(m0, .inr (3, [.ref mb, .ref ml, .ref mm, .int (nI many), .int (nI 0), .ref mk])), (mb, .inl (T 0, 1920, .inl fb)), (ml, .inl (T 0, 6, .inl fl)), (mm, .inl (T 0, 600, .inl fm)), (mk, .inl (T 0, 320, .inl fk))]) [4, 0, 1, 2, 3] rfl
          have hD9 := hD.sub (ws' := [(m0, .inr (3, [.ref mb, .ref ml, .ref mm, .int (nI many), .int (nI 0), .ref mk])), (mb, .inl (T 0, 1920, .inl fb)), (ml, .inl (T 0, 6, .inl fl)), (mm, .inl (T 0, 600, .inl fm)), (mk, .inl (T 0, 320, .inl fk))]) [4, 0, 1, 2, 3] (by decide) rfl
          exact W.zret (v := (bI r)) (ty := .boolean) hx hb hr (zr_bI _) (fun t ht hW => ⟨⟨(many, (nI 0), fb, fl, fm, fk), congrArg (fun z => Outcome.returned (some (Value.int z))) (congrArg bI (by
              by_cases hr8 : r = true
              · rw [hr8]; exact (decide_eq_true ⟨(hr9.mp hr8).1, fun x hx => (hr9.mp hr8).2 x (by have h7 := (hr9.mp hr8).1; first | (exfalso; rw [hr8] at c_55; exact absurd c_55 (by decide)) | (have := hd hr8; omega) | omega)⟩).symm
              · rw [no_of hr8]; exact (decide_eq_false (fun z => hr8 (hr9.mpr ⟨z.1, fun x hx => z.2 x (by have := z.1; omega)⟩))).symm)), show (nI 0) = nI 0 ∧ MR fl fb (N) (Bw) from ⟨rfl, hMR⟩, (by rw [ht]; exact hP9), va_K.moved hW.alike hK, hD9⟩, hS.F ht⟩) hS.2.2 dX6_isLike_99
        · refine lv_iload hx hb dX6_isLike_58 (lv_at hl 4 rfl) ?_
          refine lv_aload_n hx hb dX6_isLike_60 rfl (lv_at hl 0 rfl) ?_
          refine va_get (D := D) (ci := 3) (v := .ref ml) (C := RX6) (T := TX6) (N := 6) hx hb hts hi_X6 hown hK hP 4 rfl rfl 1 (by decide) (hts _ (List.mem_of_getElem? (i := 1) rfl)) (fun _ h9 => h9) rfl dX6_isLike_61 ?_
          refine lv_iload_n hx hb dX6_isLike_64 rfl (lv_at hl 1 rfl) ?_
          refine ln_iald hx hb hK hP 1 0 rfl rfl ⟨by omega, by omega⟩ dX6_isLike_65 ?_
          rw [show fl i = nI (N i) from hrow.1]
          refine ln_icmp_ge (tgt := 98) hx hb ⟨by omega, by omega⟩ dX6_isLike_66 (by decide) (fun c_66 => ?_) (fun c_66 => ?_)
          · refine lv_iload_n hx hb dX6_isLike_98 rfl (lv_at hl 3 rfl) ?_
            have hP9 := hP.sub (ws' := [(m0, .inr (3, [.ref mb, .ref ml, .ref mm, .int (nI many), .int (nI 0), .ref mk])), (mb, .inl (T 0, 1920, .inl fb)), (ml, .inl (T 0, 6, .inl fl)), (mm, .inl (T 0, 600, .inl fm)), (mk, .inl (T 0, 320, .inl fk))]) [4, 0, 1, 2, 3] rfl
            have hD9 := hD.sub (ws' := [(m0, .inr (3, [.ref mb, .ref ml, .ref mm, .int (nI many), .int (nI 0), .ref mk])), (mb, .inl (T 0, 1920, .inl fb)), (ml, .inl (T 0, 6, .inl fl)), (mm, .inl (T 0, 600, .inl fm)), (mk, .inl (T 0, 320, .inl fk))]) [4, 0, 1, 2, 3] (by decide) rfl
            exact W.zret (v := (bI r)) (ty := .boolean) hx hb hr (zr_bI _) (fun t ht hW => ⟨⟨(many, (nI 0), fb, fl, fm, fk), congrArg (fun z => Outcome.returned (some (Value.int z))) (congrArg bI (by
                by_cases hr8 : r = true
                · rw [hr8]; exact (decide_eq_true ⟨(hr9.mp hr8).1, fun x hx => (hr9.mp hr8).2 x (by have h7 := (hr9.mp hr8).1; first | (exfalso; rw [hr8] at c_55; exact absurd c_55 (by decide)) | (have := hd hr8; omega) | omega)⟩).symm
                · rw [no_of hr8]; exact (decide_eq_false (fun z => hr8 (hr9.mpr ⟨z.1, fun x hx => z.2 x (by have := z.1; omega)⟩))).symm)), show (nI 0) = nI 0 ∧ MR fl fb (N) (Bw) from ⟨rfl, hMR⟩, (by rw [ht]; exact hP9), va_K.moved hW.alike hK, hD9⟩, hS.F ht⟩) hS.2.2 dX6_isLike_99
          · refine lv_aload_n hx hb dX6_isLike_69 rfl (lv_at hl 0 rfl) ?_
            refine lv_iload_n hx hb dX6_isLike_70 rfl (lv_at hl 1 rfl) ?_
            refine lv_iload hx hb dX6_isLike_71 (lv_at hl 4 rfl) ?_
            refine ro_V (As := [.int (nI i), .int (nI d)]) (rest := []) (wc := [(m0, .inr (3, [.ref mb, .ref ml, .ref mm, .int (nI many), .int (nI 0), .ref mk])), (mb, .inl (T 0, 1920, .inl fb))]) (r := .int (nI ((Bw i) d))) ⟨hx, hb, hml, hown, hts⟩ (c_X6_atB l D T g m0 mb ml mm mk many (nI 0) fb i d (N i) (Bw i) hi (hrow.2) (by omega)) (cwV 2 hts gX6_isLike_X6_at rfl rfl rfl (by decide +kernel) ⟨Nat.le_of_ble_eq_true rfl, Nat.le_of_ble_eq_true rfl⟩) (va_recv hK hP (ci := 3) (q0 := 4) rfl rfl) hP hK hG hS [4, 0] rfl ⟨Nat.zero_le _, Nat.zero_le _⟩ rfl hl.1 (Nat.le_of_ble_eq_true rfl) dX6_isLike_73 rfl ?_
            refine lv_aload_n hx hb dX6_isLike_76 rfl (lv_at hl 0 rfl) ?_
            refine lv_iload_n hx hb dX6_isLike_77 rfl (lv_at hl 2 rfl) ?_
            refine lv_iload hx hb dX6_isLike_78 (lv_at hl 4 rfl) ?_
            refine ro_V (As := [.int (nI j), .int (nI d)]) (rest := [.int (nI ((Bw i) d))]) (wc := [(m0, .inr (3, [.ref mb, .ref ml, .ref mm, .int (nI many), .int (nI 0), .ref mk])), (mb, .inl (T 0, 1920, .inl fb))]) (r := .int (nI ((Bw j) d))) ⟨hx, hb, hml, hown, hts⟩ (c_X6_atB l D T g m0 mb ml mm mk many (nI 0) fb j d (N j) (Bw j) hj (hrj.2) (by have := (hr9.mp (bI_nz.mp c_55)).1; omega)) (cwV 2 hts gX6_isLike_X6_at rfl rfl rfl (by decide +kernel) ⟨Nat.le_of_ble_eq_true rfl, Nat.le_of_ble_eq_true rfl⟩) (va_recv hK hP (ci := 3) (q0 := 4) rfl rfl) hP hK hG hS [4, 0] rfl ⟨Nat.zero_le _, Nat.zero_le _⟩ rfl hl.1 (Nat.le_of_ble_eq_true rfl) dX6_isLike_80 rfl ?_
            have hx1 := (hrow.2.2 d (by omega)).2
            have hx2 := (hrj.2.2 d (by have := (hr9.mp (bI_nz.mp c_55)).1; omega)).2
            refine ln_icmp_ne (tgt := 90) hx hb ⟨by omega, by omega⟩ dX6_isLike_83 (by decide) (fun c_83 => ?_) (fun c_83 => ?_)
            · refine lv_iconst (v := (nI 0)) hx hb dX6_isLike_90 (by decide +kernel) ?_
              rw [show nI 0 = bI false from rfl]
              refine lv_istore_n (lv' := [(3, .int (bI false)), (0, .ref m0), (1, .int (nI i)), (2, .int (nI j)), (4, .int (nI d))]) hx hb dX6_isLike_91 rfl hl (by decide) rfl (fun ls hl => ?_)
              refine lv_iinc (v := (nI (d + 1))) (lv' := [(4, .int (nI (d + 1))), (3, .int (bI false)), (0, .ref m0), (1, .int (nI i)), (2, .int (nI j))]) hx hb dX6_isLike_92 hl (k := 4) rfl (ni_inc1 _) (by decide) rfl (fun ls hl => ?_)
              refine lv_goto (tgt := 54) hx hb dX6_isLike_95 (by decide) ?_
              exact ih_54 (d + 1) false (fun _ => by omega) (by
                    have h9 := hr9.mp (bI_nz.mp c_55)
                    first | exact ⟨fun _ => ⟨h9.1, fun x hx => by
                      by_cases e9 : x = d
                      · subst e9; exact c_83
                      · exact h9.2 x (by omega)⟩, fun _ => rfl⟩ | exact ⟨(fun z => by cases z), fun z => absurd (z.2 d (Nat.lt_succ_self _)) c_83⟩) (by omega) (by omega) ls (lv_sub hl [2, 3, 4, 1, 0] rfl)
            · refine lv_iconst (v := (nI 1)) hx hb dX6_isLike_86 (by decide +kernel) ?_
              refine lv_goto (tgt := 91) hx hb dX6_isLike_87 (by decide) ?_
              rw [show nI 1 = bI true from rfl]
              refine lv_istore_n (lv' := [(3, .int (bI true)), (0, .ref m0), (1, .int (nI i)), (2, .int (nI j)), (4, .int (nI d))]) hx hb dX6_isLike_91 rfl hl (by decide) rfl (fun ls hl => ?_)
              refine lv_iinc (v := (nI (d + 1))) (lv' := [(4, .int (nI (d + 1))), (3, .int (bI true)), (0, .ref m0), (1, .int (nI i)), (2, .int (nI j))]) hx hb dX6_isLike_92 hl (k := 4) rfl (ni_inc1 _) (by decide) rfl (fun ls hl => ?_)
              refine lv_goto (tgt := 54) hx hb dX6_isLike_95 (by decide) ?_
              exact ih_54 (d + 1) true (fun _ => by omega) (by
                    have h9 := hr9.mp (bI_nz.mp c_55)
                    first | exact ⟨fun _ => ⟨h9.1, fun x hx => by
                      by_cases e9 : x = d
                      · subst e9; exact c_83
                      · exact h9.2 x (by omega)⟩, fun _ => rfl⟩ | exact ⟨(fun z => by cases z), fun z => absurd (z.2 d (Nat.lt_succ_self _)) c_83⟩) (by omega) (by omega) ls (lv_sub hl [2, 3, 4, 1, 0] rfl)
    exact K2 _ 0 false (fun _ => Nat.zero_le _) (by first | exact ⟨fun _ => ⟨c_42, fun x hx => absurd hx (Nat.not_lt_zero _)⟩, fun _ => rfl⟩ | exact ⟨(fun z => by cases z), fun z => absurd z.1 c_42⟩) (Nat.zero_le _) (Nat.lt_succ_self _) ls (lv_sub hl [2, 3, 4, 1, 0] rfl)
  · refine lv_iconst (v := (nI 1)) hx hb dX6_isLike_45 (by decide +kernel) ?_
    refine lv_goto (tgt := 50) hx hb dX6_isLike_46 (by decide) ?_
    rw [show nI 1 = bI true from rfl]
    refine lv_istore_n (lv' := [(3, .int (bI true)), (0, .ref m0), (1, .int (nI i)), (2, .int (nI j))]) hx hb dX6_isLike_50 rfl hl (by decide) rfl (fun ls hl => ?_)
    refine lv_iconst (v := (nI 0)) hx hb dX6_isLike_51 (by decide +kernel) ?_
    refine lv_istore (lv' := [(4, .int (nI 0)), (3, .int (bI true)), (0, .ref m0), (1, .int (nI i)), (2, .int (nI j))]) hx hb dX6_isLike_52 hl (by decide) rfl (fun ls hl => ?_)
    have K3 : ∀ (N9 : Nat) (d : Nat) (r : Bool), (r = true → d ≤ N i) → (r = true ↔ (N i = N j ∧ ∀ x, x < d → Bw i x = Bw j x)) → (d ≤ N i) → N i - d < N9 → ∀ ls : Array Slot, lv_has ls 5 [(0, .ref m0), (1, .int (nI i)), (2, .int (nI j)), (3, .int (bI r)), (4, .int (nI d))] → W p l e (headSpec wsX6_isLike ({ frames := 60, cells := 0, slots := 0, locals := 3000 } : Room)).room s m ([.ref m0, .int (nI i), .int (nI j)] : List Value).toArray below meth c H locs 0 0 (MQ below (QM D T A (fun u : Nat × Int32 × (Nat → Int32) × (Nat → Int32) × (Nat → Int32) × (Nat → Int32) => some (.int (bI (saB (N i) (Bw i) (N j) (Bw j))))) (fun u : Nat × Int32 × (Nat → Int32) × (Nat → Int32) × (Nat → Int32) × (Nat → Int32) => u.2.1 = nI 0 ∧ MR u.2.2.2.1 u.2.2.1 (N) (Bw)) (fun u : Nat × Int32 × (Nat → Int32) × (Nat → Int32) × (Nat → Int32) × (Nat → Int32) => [(m0, .inr (3, [.ref mb, .ref ml, .ref mm, .int (nI u.1), .int u.2.1, .ref mk])), (mb, .inl (T 0, 1920, .inl u.2.2.1)), (ml, .inl (T 0, 6, .inl u.2.2.2.1)), (mm, .inl (T 0, 600, .inl u.2.2.2.2.1)), (mk, .inl (T 0, 320, .inl u.2.2.2.2.2))])) ([.ref m0, .int (nI i), .int (nI j)] : List Value).toArray s 0 0 A) (F0 m 54 ls []) := by
      intro N9
      induction N9 with
      | zero => intro d r hd hr9 hd2 h9; exact absurd h9 (Nat.not_lt_zero _)
      | succ N9 ih_54 =>
        intro d r hd hr9 hd2 h9 ls hl
        refine lv_iload_n hx hb dX6_isLike_54 rfl (lv_at hl 3 rfl) ?_
        refine lv_if_eq (tgt := 98) hx hb dX6_isLike_55 (by decide) (fun c_55 => ?_) (fun c_55 => ?_)
        · refine lv_iload_n hx hb dX6_isLike_98 rfl (lv_at hl 3 rfl) ?_
          have hP9 := hP.sub (ws' := [(m0, .inr (3, [.ref mb, .ref ml, .ref mm, .int (nI many), .int (nI 0), .ref mk])), (mb, .inl (T 0, 1920, .inl fb)), (ml, .inl (T 0, 6, .inl fl)), (mm, .inl (T 0, 600, .inl fm)), (mk, .inl (T 0, 320, .inl fk))]) [4, 0, 1, 2, 3] rfl
          have hD9 := hD.sub (ws' := [(m0, .inr (3, [.ref mb, .ref ml, .ref mm, .int (nI many), .int (nI 0), .ref mk])), (mb, .inl (T 0, 1920, .inl fb)), (ml, .inl (T 0, 6, .inl fl)), (mm, .inl (T 0, 600, .inl fm)), (mk, .inl (T 0, 320, .inl fk))]) [4, 0, 1, 2, 3] (by decide) rfl
          exact W.zret (v := (bI r)) (ty := .boolean) hx hb hr (zr_bI _) (fun t ht hW => ⟨⟨(many, (nI 0), fb, fl, fm, fk), congrArg (fun z => Outcome.returned (some (Value.int z))) (congrArg bI (by
              by_cases hr8 : r = true
              · rw [hr8]; exact (decide_eq_true ⟨(hr9.mp hr8).1, fun x hx => (hr9.mp hr8).2 x (by have h7 := (hr9.mp hr8).1; first | (exfalso; rw [hr8] at c_55; exact absurd c_55 (by decide)) | (have := hd hr8; omega) | omega)⟩).symm
              · rw [no_of hr8]; exact (decide_eq_false (fun z => hr8 (hr9.mpr ⟨z.1, fun x hx => z.2 x (by have := z.1; omega)⟩))).symm)), show (nI 0) = nI 0 ∧ MR fl fb (N) (Bw) from ⟨rfl, hMR⟩, (by rw [ht]; exact hP9), va_K.moved hW.alike hK, hD9⟩, hS.F ht⟩) hS.2.2 dX6_isLike_99
        · refine lv_iload hx hb dX6_isLike_58 (lv_at hl 4 rfl) ?_
          refine lv_aload_n hx hb dX6_isLike_60 rfl (lv_at hl 0 rfl) ?_
          refine va_get (D := D) (ci := 3) (v := .ref ml) (C := RX6) (T := TX6) (N := 6) hx hb hts hi_X6 hown hK hP 4 rfl rfl 1 (by decide) (hts _ (List.mem_of_getElem? (i := 1) rfl)) (fun _ h9 => h9) rfl dX6_isLike_61 ?_
          refine lv_iload_n hx hb dX6_isLike_64 rfl (lv_at hl 1 rfl) ?_
          refine ln_iald hx hb hK hP 1 0 rfl rfl ⟨by omega, by omega⟩ dX6_isLike_65 ?_
          rw [show fl i = nI (N i) from hrow.1]
          refine ln_icmp_ge (tgt := 98) hx hb ⟨by omega, by omega⟩ dX6_isLike_66 (by decide) (fun c_66 => ?_) (fun c_66 => ?_)
          · refine lv_iload_n hx hb dX6_isLike_98 rfl (lv_at hl 3 rfl) ?_
            have hP9 := hP.sub (ws' := [(m0, .inr (3, [.ref mb, .ref ml, .ref mm, .int (nI many), .int (nI 0), .ref mk])), (mb, .inl (T 0, 1920, .inl fb)), (ml, .inl (T 0, 6, .inl fl)), (mm, .inl (T 0, 600, .inl fm)), (mk, .inl (T 0, 320, .inl fk))]) [4, 0, 1, 2, 3] rfl
            have hD9 := hD.sub (ws' := [(m0, .inr (3, [.ref mb, .ref ml, .ref mm, .int (nI many), .int (nI 0), .ref mk])), (mb, .inl (T 0, 1920, .inl fb)), (ml, .inl (T 0, 6, .inl fl)), (mm, .inl (T 0, 600, .inl fm)), (mk, .inl (T 0, 320, .inl fk))]) [4, 0, 1, 2, 3] (by decide) rfl
            exact W.zret (v := (bI r)) (ty := .boolean) hx hb hr (zr_bI _) (fun t ht hW => ⟨⟨(many, (nI 0), fb, fl, fm, fk), congrArg (fun z => Outcome.returned (some (Value.int z))) (congrArg bI (by
                by_cases hr8 : r = true
                · rw [hr8]; exact (decide_eq_true ⟨(hr9.mp hr8).1, fun x hx => (hr9.mp hr8).2 x (by have h7 := (hr9.mp hr8).1; first | (exfalso; rw [hr8] at c_55; exact absurd c_55 (by decide)) | (have := hd hr8; omega) | omega)⟩).symm
                · rw [no_of hr8]; exact (decide_eq_false (fun z => hr8 (hr9.mpr ⟨z.1, fun x hx => z.2 x (by have := z.1; omega)⟩))).symm)), show (nI 0) = nI 0 ∧ MR fl fb (N) (Bw) from ⟨rfl, hMR⟩, (by rw [ht]; exact hP9), va_K.moved hW.alike hK, hD9⟩, hS.F ht⟩) hS.2.2 dX6_isLike_99
          · refine lv_aload_n hx hb dX6_isLike_69 rfl (lv_at hl 0 rfl) ?_
            refine lv_iload_n hx hb dX6_isLike_70 rfl (lv_at hl 1 rfl) ?_
            refine lv_iload hx hb dX6_isLike_71 (lv_at hl 4 rfl) ?_
            refine ro_V (As := [.int (nI i), .int (nI d)]) (rest := []) (wc := [(m0, .inr (3, [.ref mb, .ref ml, .ref mm, .int (nI many), .int (nI 0), .ref mk])), (mb, .inl (T 0, 1920, .inl fb))]) (r := .int (nI ((Bw i) d))) ⟨hx, hb, hml, hown, hts⟩ (c_X6_atB l D T g m0 mb ml mm mk many (nI 0) fb i d (N i) (Bw i) hi (hrow.2) (by omega)) (cwV 2 hts gX6_isLike_X6_at rfl rfl rfl (by decide +kernel) ⟨Nat.le_of_ble_eq_true rfl, Nat.le_of_ble_eq_true rfl⟩) (va_recv hK hP (ci := 3) (q0 := 4) rfl rfl) hP hK hG hS [4, 0] rfl ⟨Nat.zero_le _, Nat.zero_le _⟩ rfl hl.1 (Nat.le_of_ble_eq_true rfl) dX6_isLike_73 rfl ?_
            refine lv_aload_n hx hb dX6_isLike_76 rfl (lv_at hl 0 rfl) ?_
            refine lv_iload_n hx hb dX6_isLike_77 rfl (lv_at hl 2 rfl) ?_
            refine lv_iload hx hb dX6_isLike_78 (lv_at hl 4 rfl) ?_
            refine ro_V (As := [.int (nI j), .int (nI d)]) (rest := [.int (nI ((Bw i) d))]) (wc := [(m0, .inr (3, [.ref mb, .ref ml, .ref mm, .int (nI many), .int (nI 0), .ref mk])), (mb, .inl (T 0, 1920, .inl fb))]) (r := .int (nI ((Bw j) d))) ⟨hx, hb, hml, hown, hts⟩ (c_X6_atB l D T g m0 mb ml mm mk many (nI 0) fb j d (N j) (Bw j) hj (hrj.2) (by have := (hr9.mp (bI_nz.mp c_55)).1; omega)) (cwV 2 hts gX6_isLike_X6_at rfl rfl rfl (by decide +kernel) ⟨Nat.le_of_ble_eq_true rfl, Nat.le_of_ble_eq_true rfl⟩) (va_recv hK hP (ci := 3) (q0 := 4) rfl rfl) hP hK hG hS [4, 0] rfl ⟨Nat.zero_le _, Nat.zero_le _⟩ rfl hl.1 (Nat.le_of_ble_eq_true rfl) dX6_isLike_80 rfl ?_
            have hx1 := (hrow.2.2 d (by omega)).2
            have hx2 := (hrj.2.2 d (by have := (hr9.mp (bI_nz.mp c_55)).1; omega)).2
            refine ln_icmp_ne (tgt := 90) hx hb ⟨by omega, by omega⟩ dX6_isLike_83 (by decide) (fun c_83 => ?_) (fun c_83 => ?_)
            · refine lv_iconst (v := (nI 0)) hx hb dX6_isLike_90 (by decide +kernel) ?_
              rw [show nI 0 = bI false from rfl]
              refine lv_istore_n (lv' := [(3, .int (bI false)), (0, .ref m0), (1, .int (nI i)), (2, .int (nI j)), (4, .int (nI d))]) hx hb dX6_isLike_91 rfl hl (by decide) rfl (fun ls hl => ?_)
              refine lv_iinc (v := (nI (d + 1))) (lv' := [(4, .int (nI (d + 1))), (3, .int (bI false)), (0, .ref m0), (1, .int (nI i)), (2, .int (nI j))]) hx hb dX6_isLike_92 hl (k := 4) rfl (ni_inc1 _) (by decide) rfl (fun ls hl => ?_)
              refine lv_goto (tgt := 54) hx hb dX6_isLike_95 (by decide) ?_
              exact ih_54 (d + 1) false (fun _ => by omega) (by
                    have h9 := hr9.mp (bI_nz.mp c_55)
                    first | exact ⟨fun _ => ⟨h9.1, fun x hx => by
                      by_cases e9 : x = d
                      · subst e9; exact c_83
                      · exact h9.2 x (by omega)⟩, fun _ => rfl⟩ | exact ⟨(fun z => by cases z), fun z => absurd (z.2 d (Nat.lt_succ_self _)) c_83⟩) (by omega) (by omega) ls (lv_sub hl [2, 3, 4, 1, 0] rfl)
            · refine lv_iconst (v := (nI 1)) hx hb dX6_isLike_86 (by decide +kernel) ?_
              refine lv_goto (tgt := 91) hx hb dX6_isLike_87 (by decide) ?_
              rw [show nI 1 = bI true from rfl]
              refine lv_istore_n (lv' := [(3, .int (bI true)), (0, .ref m0), (1, .int (nI i)), (2, .int (nI j)), (4, .int (nI d))]) hx hb dX6_isLike_91 rfl hl (by decide) rfl (fun ls hl => ?_)
              refine lv_iinc (v := (nI (d + 1))) (lv' := [(4, .int (nI (d + 1))), (3, .int (bI true)), (0, .ref m0), (1, .int (nI i)), (2, .int (nI j))]) hx hb dX6_isLike_92 hl (k := 4) rfl (ni_inc1 _) (by decide) rfl (fun ls hl => ?_)
              refine lv_goto (tgt := 54) hx hb dX6_isLike_95 (by decide) ?_
              exact ih_54 (d + 1) true (fun _ => by omega) (by
                    have h9 := hr9.mp (bI_nz.mp c_55)
                    first | exact ⟨fun _ => ⟨h9.1, fun x hx => by
                      by_cases e9 : x = d
                      · subst e9; exact c_83
                      · exact h9.2 x (by omega)⟩, fun _ => rfl⟩ | exact ⟨(fun z => by cases z), fun z => absurd (z.2 d (Nat.lt_succ_self _)) c_83⟩) (by omega) (by omega) ls (lv_sub hl [2, 3, 4, 1, 0] rfl)
    exact K3 _ 0 true (fun _ => Nat.zero_le _) (by first | exact ⟨fun _ => ⟨c_42, fun x hx => absurd hx (Nat.not_lt_zero _)⟩, fun _ => rfl⟩ | exact ⟨(fun z => by cases z), fun z => absurd z.1 c_42⟩) (Nat.zero_le _) (Nat.lt_succ_self _) ls (lv_sub hl [2, 3, 4, 1, 0] rfl)
set_option maxHeartbeats 4000000 in
set_option maxRecDepth 100000 in
theorem m_write_1 (l : Launch) (D : va_G) (T : Nat → ClassId) (g : Nat → Nat) (sz : Nat) (m0 : Nat) (mb : Nat) (ml : Nat) (mm : Nat) (mk : Nat) (many : Nat) (th : Int32) (fb : Nat → Int32) (fl : Nat → Int32) (fm : Nat → Int32) (fk : Nat → Int32) (N : Nat → Nat) (Bw : Nat → Nat → Nat) (hMR : MR fl fb N Bw) (i : Int32) (hi : i < 0 ∨ nI 5 < i) (x0 : Int32) (x1 : Int32) (x2 : Int32) : MU l yX6_write wsX6_write ({ frames := 60, cells := 0, slots := 0, locals := 3000 } : Room) D T g [.ref m0, .int i, .int x0, .int x1, .int x2] [(m0, .inr (3, [.ref mb, .ref ml, .ref mm, .int (nI many), .int th, .ref mk])), (mb, .inl (T 0, 1920, .inl fb)), (ml, .inl (T 0, 6, .inl fl)), (mm, .inl (T 0, 600, .inl fm)), (mk, .inl (T 0, 320, .inl fk))] sz (fun u : Nat × Int32 × (Nat → Int32) × (Nat → Int32) × (Nat → Int32) × (Nat → Int32) => some (.int (nI 0))) (fun u : Nat × Int32 × (Nat → Int32) × (Nat → Int32) × (Nat → Int32) × (Nat → Int32) => u.2.1 = nI 1 ∧ MR u.2.2.2.1 u.2.2.1 (N) (Bw)) (fun u : Nat × Int32 × (Nat → Int32) × (Nat → Int32) × (Nat → Int32) × (Nat → Int32) => [(m0, .inr (3, [.ref mb, .ref ml, .ref mm, .int (nI u.1), .int u.2.1, .ref mk])), (mb, .inl (T 0, 1920, .inl u.2.2.1)), (ml, .inl (T 0, 6, .inl u.2.2.2.1)), (mm, .inl (T 0, 600, .inl u.2.2.2.2.1)), (mk, .inl (T 0, 320, .inl u.2.2.2.2.2))]) 0 0 := by
  refine Met.ofW (cc := cX6_write) (maxL := 5) (ret := (some .int)) (by decide) rfl ?_
  intro p e s m args below meth c s₁ B hml hv
  obtain ⟨rfl, hsz, hP, hK, hD0, hG⟩ := hv
  have hx := B.exec
  have hb := B.bytes
  have hr := B.returns
  have hts := atoms_spec (ws := wsX6_write) B.pre
  have hown : s.vm.findClass RX6 = some m.cls := findClass_of_methodNamed B.named
  have hlocks := B.notSynchronized
  subst hsz
  have hD := hD0.self (sz := s.heap.size)
  generalize hAe : va_A [(m0, .inr (3, [.ref mb, .ref ml, .ref mm, .int (nI many), .int th, .ref mk])), (mb, .inl (T 0, 1920, .inl fb)), (ml, .inl (T 0, 6, .inl fl)), (mm, .inl (T 0, 600, .inl fm)), (mk, .inl (T 0, 320, .inl fk))] s.heap.size = A at hD hG ⊢
  have hA : ∀ q : Nat, s.heap.size ≤ q → A q := fun q h => by rw [← hAe]; exact Or.inr h
  have hS : va_S A s.heap s.heap [] := va_S.rf
  have hP : va_P D cls [(m0, .inr (3, [.ref mb, .ref ml, .ref mm, .int (nI many), .int th, .ref mk])), (mb, .inl (T 0, 1920, .inl fb)), (ml, .inl (T 0, 6, .inl fl)), (mm, .inl (T 0, 600, .inl fm)), (mk, .inl (T 0, 320, .inl fk))] s.heap := hP
  have hl := lv_entry ([.ref m0, .int i, .int x0, .int x1, .int x2]) (n := 5) (Nat.le_of_ble_eq_true rfl)
  rw [lg_entry_eq]
  generalize (lg_sl ([.ref m0, .int i, .int x0, .int x1, .int x2]) ++ List.replicate (5 - (lg_sl ([.ref m0, .int i, .int x0, .int x1, .int x2])).length) Slot.unset).toArray = ls at hl ⊢
  have hl : lv_has ls 5 [(0, .ref m0), (1, .int i), (2, .int x0), (3, .int x1), (4, .int x2)] := hl
  refine lv_aload_n hx hb dX6_write_0 rfl (lv_at hl 0 rfl) ?_
  refine lv_aload_n hx hb dX6_write_1 rfl (lv_at hl 0 rfl) ?_
  refine lv_iload_n hx hb dX6_write_2 rfl (lv_at hl 1 rfl) ?_
  refine ro_V (As := [.int i]) (rest := [.ref m0]) (wc := []) (r := .int (nI 0)) ⟨hx, hb, hml, hown, hts⟩ (c_X6_isRow_n l D T g m0 i hi) (cwV 1 hts gX6_write_X6_isRow rfl rfl rfl (by decide +kernel) ⟨Nat.le_of_ble_eq_true rfl, Nat.le_of_ble_eq_true rfl⟩) (va_recv hK hP (ci := 3) (q0 := 0) rfl rfl) hP hK hG hS [] rfl ⟨Nat.zero_le _, Nat.zero_le _⟩ rfl hl.1 (Nat.le_of_ble_eq_true rfl) dX6_write_3 rfl ?_
  refine ln_if_eq_t (tgt := 17) hx hb (by omega) (by decide) dX6_write_6 (by decide) ?_
  refine lv_iconst (v := (nI 1)) hx hb dX6_write_17 (by decide +kernel) ?_
  refine lv_goto (tgt := 34) hx hb dX6_write_18 (by decide) ?_
  refine mu_V (As := [.int (nI 1)]) (rest := []) (wc := [(m0, .inr (3, [.ref mb, .ref ml, .ref mm, .int (nI many), .int th, .ref mk]))]) (wr := [(mb, .inl (T 0, 1920, .inl fb)), (ml, .inl (T 0, 6, .inl fl)), (mm, .inl (T 0, 600, .inl fm)), (mk, .inl (T 0, 320, .inl fk))]) ⟨hx, hb, hml, hown, hts⟩ (c_X6_isWrong_p l D T g s.heap.size m0 mb ml mm mk many th 1 (by omega)) (cwV 1 hts gX6_write_X6_isWrong rfl rfl rfl (by decide +kernel) ⟨Nat.le_of_ble_eq_true rfl, Nat.le_of_ble_eq_true rfl⟩) (va_recv hK hP (ci := 3) (q0 := 0) rfl rfl) hP hD hK hG hS hA [0] [1, 2, 3, 4] rfl (by decide) rfl (by decide) (by decide) ⟨Nat.le_of_ble_eq_true rfl, Nat.le_of_ble_eq_true rfl⟩ rfl hl.1 (Nat.le_of_ble_eq_true rfl) dX6_write_34 rfl (fun u H locs hq1 hP hD hS => ?_)
  have hP : va_P D cls [(mb, .inl (T 0, 1920, .inl fb)), (ml, .inl (T 0, 6, .inl fl)), (mm, .inl (T 0, 600, .inl fm)), (mk, .inl (T 0, 320, .inl fk)), (m0, .inr (3, [.ref mb, .ref ml, .ref mm, .int (nI many), .int (nI 1), .ref mk]))] H := hP
  have hD : va_D A [(mb, .inl (T 0, 1920, .inl fb)), (ml, .inl (T 0, 6, .inl fl)), (mm, .inl (T 0, 600, .inl fm)), (mk, .inl (T 0, 320, .inl fk)), (m0, .inr (3, [.ref mb, .ref ml, .ref mm, .int (nI many), .int (nI 1), .ref mk]))] := hD
  refine W.eq (g2 := F0 m 37 ls [.int (nI 1)]) rfl ?_
  refine ln_if_eq_f (tgt := 42) hx hb (by omega) (by decide) dX6_write_37 (by decide) ?_
  refine lv_iconst (v := (nI 0)) hx hb dX6_write_40 (by decide +kernel) ?_
  have hP9 := hP.sub (ws' := [(m0, .inr (3, [.ref mb, .ref ml, .ref mm, .int (nI many), .int (nI 1), .ref mk])), (mb, .inl (T 0, 1920, .inl fb)), (ml, .inl (T 0, 6, .inl fl)), (mm, .inl (T 0, 600, .inl fm)), (mk, .inl (T 0, 320, .inl fk))]) [4, 0, 1, 2, 3] rfl
  have hD9 := hD.sub (ws' := [(m0, .inr (3, [.ref mb, .ref ml, .ref mm, .int (nI many), .int (nI 1), .ref mk])), (mb, .inl (T 0, 1920, .inl fb)), (ml, .inl (T 0, 6, .inl fl)), (mm, .inl (T 0, 600, .inl fm)), (mk, .inl (T 0, 320, .inl fk))]) [4, 0, 1, 2, 3] (by decide) rfl
  exact W.iret (v := (nI 0)) hx hb hr (fun t ht hW => ⟨⟨(many, (nI 1), fb, fl, fm, fk), rfl, show (nI 1) = nI 1 ∧ MR fl fb (N) (Bw) from ⟨rfl, hMR⟩, (by rw [ht]; exact hP9), va_K.moved hW.alike hK, hD9⟩, hS.F ht⟩) hS.2.2 dX6_write_41
set_option maxHeartbeats 4000000 in
set_option maxRecDepth 100000 in
theorem m_write_2 (l : Launch) (D : va_G) (T : Nat → ClassId) (g : Nat → Nat) (sz : Nat) (m0 : Nat) (mb : Nat) (ml : Nat) (mm : Nat) (mk : Nat) (many : Nat) (th : Int32) (fb : Nat → Int32) (fl : Nat → Int32) (fm : Nat → Int32) (fk : Nat → Int32) (N : Nat → Nat) (Bw : Nat → Nat → Nat) (hMR : MR fl fb N Bw) (i : Nat) (hi : i < 6) (j : Int32) (hj : j < 0 ∨ nI 5 < j) (x0 : Int32) (x1 : Int32) : MU l yX6_write wsX6_write ({ frames := 60, cells := 0, slots := 0, locals := 3000 } : Room) D T g [.ref m0, .int (nI i), .int j, .int x0, .int x1] [(m0, .inr (3, [.ref mb, .ref ml, .ref mm, .int (nI many), .int th, .ref mk])), (mb, .inl (T 0, 1920, .inl fb)), (ml, .inl (T 0, 6, .inl fl)), (mm, .inl (T 0, 600, .inl fm)), (mk, .inl (T 0, 320, .inl fk))] sz (fun u : Nat × Int32 × (Nat → Int32) × (Nat → Int32) × (Nat → Int32) × (Nat → Int32) => some (.int (nI 0))) (fun u : Nat × Int32 × (Nat → Int32) × (Nat → Int32) × (Nat → Int32) × (Nat → Int32) => u.2.1 = nI 1 ∧ MR u.2.2.2.1 u.2.2.1 (N) (Bw)) (fun u : Nat × Int32 × (Nat → Int32) × (Nat → Int32) × (Nat → Int32) × (Nat → Int32) => [(m0, .inr (3, [.ref mb, .ref ml, .ref mm, .int (nI u.1), .int u.2.1, .ref mk])), (mb, .inl (T 0, 1920, .inl u.2.2.1)), (ml, .inl (T 0, 6, .inl u.2.2.2.1)), (mm, .inl (T 0, 600, .inl u.2.2.2.2.1)), (mk, .inl (T 0, 320, .inl u.2.2.2.2.2))]) 0 0 := by
  refine Met.ofW (cc := cX6_write) (maxL := 5) (ret := (some .int)) (by decide) rfl ?_
  intro p e s m args below meth c s₁ B hml hv
  obtain ⟨rfl, hsz, hP, hK, hD0, hG⟩ := hv
  have hx := B.exec
  have hb := B.bytes
  have hr := B.returns
  have hts := atoms_spec (ws := wsX6_write) B.pre
  have hown : s.vm.findClass RX6 = some m.cls := findClass_of_methodNamed B.named
  have hlocks := B.notSynchronized
  subst hsz
  have hD := hD0.self (sz := s.heap.size)
  generalize hAe : va_A [(m0, .inr (3, [.ref mb, .ref ml, .ref mm, .int (nI many), .int th, .ref mk])), (mb, .inl (T 0, 1920, .inl fb)), (ml, .inl (T 0, 6, .inl fl)), (mm, .inl (T 0, 600, .inl fm)), (mk, .inl (T 0, 320, .inl fk))] s.heap.size = A at hD hG ⊢
  have hA : ∀ q : Nat, s.heap.size ≤ q → A q := fun q h => by rw [← hAe]; exact Or.inr h
  have hS : va_S A s.heap s.heap [] := va_S.rf
  have hP : va_P D cls [(m0, .inr (3, [.ref mb, .ref ml, .ref mm, .int (nI many), .int th, .ref mk])), (mb, .inl (T 0, 1920, .inl fb)), (ml, .inl (T 0, 6, .inl fl)), (mm, .inl (T 0, 600, .inl fm)), (mk, .inl (T 0, 320, .inl fk))] s.heap := hP
  have hl := lv_entry ([.ref m0, .int (nI i), .int j, .int x0, .int x1]) (n := 5) (Nat.le_of_ble_eq_true rfl)
  rw [lg_entry_eq]
  generalize (lg_sl ([.ref m0, .int (nI i), .int j, .int x0, .int x1]) ++ List.replicate (5 - (lg_sl ([.ref m0, .int (nI i), .int j, .int x0, .int x1])).length) Slot.unset).toArray = ls at hl ⊢
  have hl : lv_has ls 5 [(0, .ref m0), (1, .int (nI i)), (2, .int j), (3, .int x0), (4, .int x1)] := hl
  refine lv_aload_n hx hb dX6_write_0 rfl (lv_at hl 0 rfl) ?_
  refine lv_aload_n hx hb dX6_write_1 rfl (lv_at hl 0 rfl) ?_
  refine lv_iload_n hx hb dX6_write_2 rfl (lv_at hl 1 rfl) ?_
  refine ro_V (As := [.int (nI i)]) (rest := [.ref m0]) (wc := []) (r := .int (nI 1)) ⟨hx, hb, hml, hown, hts⟩ (c_X6_isRow_y l D T g m0 i (by omega)) (cwV 1 hts gX6_write_X6_isRow rfl rfl rfl (by decide +kernel) ⟨Nat.le_of_ble_eq_true rfl, Nat.le_of_ble_eq_true rfl⟩) (va_recv hK hP (ci := 3) (q0 := 0) rfl rfl) hP hK hG hS [] rfl ⟨Nat.zero_le _, Nat.zero_le _⟩ rfl hl.1 (Nat.le_of_ble_eq_true rfl) dX6_write_3 rfl ?_
  refine ln_if_eq_f (tgt := 17) hx hb (by omega) (by decide) dX6_write_6 (by decide) ?_
  refine lv_aload_n hx hb dX6_write_9 rfl (lv_at hl 0 rfl) ?_
  refine lv_iload_n hx hb dX6_write_10 rfl (lv_at hl 2 rfl) ?_
  refine ro_V (As := [.int j]) (rest := [.ref m0]) (wc := []) (r := .int (nI 0)) ⟨hx, hb, hml, hown, hts⟩ (c_X6_isRow_n l D T g m0 j hj) (cwV 1 hts gX6_write_X6_isRow rfl rfl rfl (by decide +kernel) ⟨Nat.le_of_ble_eq_true rfl, Nat.le_of_ble_eq_true rfl⟩) (va_recv hK hP (ci := 3) (q0 := 0) rfl rfl) hP hK hG hS [] rfl ⟨Nat.zero_le _, Nat.zero_le _⟩ rfl hl.1 (Nat.le_of_ble_eq_true rfl) dX6_write_11 rfl ?_
  refine ln_if_ne_f (tgt := 21) hx hb (by omega) (by decide) dX6_write_14 (by decide) ?_
  refine lv_iconst (v := (nI 1)) hx hb dX6_write_17 (by decide +kernel) ?_
  refine lv_goto (tgt := 34) hx hb dX6_write_18 (by decide) ?_
  refine mu_V (As := [.int (nI 1)]) (rest := []) (wc := [(m0, .inr (3, [.ref mb, .ref ml, .ref mm, .int (nI many), .int th, .ref mk]))]) (wr := [(mb, .inl (T 0, 1920, .inl fb)), (ml, .inl (T 0, 6, .inl fl)), (mm, .inl (T 0, 600, .inl fm)), (mk, .inl (T 0, 320, .inl fk))]) ⟨hx, hb, hml, hown, hts⟩ (c_X6_isWrong_p l D T g s.heap.size m0 mb ml mm mk many th 1 (by omega)) (cwV 1 hts gX6_write_X6_isWrong rfl rfl rfl (by decide +kernel) ⟨Nat.le_of_ble_eq_true rfl, Nat.le_of_ble_eq_true rfl⟩) (va_recv hK hP (ci := 3) (q0 := 0) rfl rfl) hP hD hK hG hS hA [0] [1, 2, 3, 4] rfl (by decide) rfl (by decide) (by decide) ⟨Nat.le_of_ble_eq_true rfl, Nat.le_of_ble_eq_true rfl⟩ rfl hl.1 (Nat.le_of_ble_eq_true rfl) dX6_write_34 rfl (fun u H locs hq1 hP hD hS => ?_)
  have hP : va_P D cls [(mb, .inl (T 0, 1920, .inl fb)), (ml, .inl (T 0, 6, .inl fl)), (mm, .inl (T 0, 600, .inl fm)), (mk, .inl (T 0, 320, .inl fk)), (m0, .inr (3, [.ref mb, .ref ml, .ref mm, .int (nI many), .int (nI 1), .ref mk]))] H := hP
  have hD : va_D A [(mb, .inl (T 0, 1920, .inl fb)), (ml, .inl (T 0, 6, .inl fl)), (mm, .inl (T 0, 600, .inl fm)), (mk, .inl (T 0, 320, .inl fk)), (m0, .inr (3, [.ref mb, .ref ml, .ref mm, .int (nI many), .int (nI 1), .ref mk]))] := hD
  refine W.eq (g2 := F0 m 37 ls [.int (nI 1)]) rfl ?_
  refine ln_if_eq_f (tgt := 42) hx hb (by omega) (by decide) dX6_write_37 (by decide) ?_
  refine lv_iconst (v := (nI 0)) hx hb dX6_write_40 (by decide +kernel) ?_
  have hP9 := hP.sub (ws' := [(m0, .inr (3, [.ref mb, .ref ml, .ref mm, .int (nI many), .int (nI 1), .ref mk])), (mb, .inl (T 0, 1920, .inl fb)), (ml, .inl (T 0, 6, .inl fl)), (mm, .inl (T 0, 600, .inl fm)), (mk, .inl (T 0, 320, .inl fk))]) [4, 0, 1, 2, 3] rfl
  have hD9 := hD.sub (ws' := [(m0, .inr (3, [.ref mb, .ref ml, .ref mm, .int (nI many), .int (nI 1), .ref mk])), (mb, .inl (T 0, 1920, .inl fb)), (ml, .inl (T 0, 6, .inl fl)), (mm, .inl (T 0, 600, .inl fm)), (mk, .inl (T 0, 320, .inl fk))]) [4, 0, 1, 2, 3] (by decide) rfl
  exact W.iret (v := (nI 0)) hx hb hr (fun t ht hW => ⟨⟨(many, (nI 1), fb, fl, fm, fk), rfl, show (nI 1) = nI 1 ∧ MR fl fb (N) (Bw) from ⟨rfl, hMR⟩, (by rw [ht]; exact hP9), va_K.moved hW.alike hK, hD9⟩, hS.F ht⟩) hS.2.2 dX6_write_41
set_option maxHeartbeats 4000000 in
set_option maxRecDepth 100000 in
theorem m_write_3 (l : Launch) (D : va_G) (T : Nat → ClassId) (g : Nat → Nat) (sz : Nat) (m0 : Nat) (mb : Nat) (ml : Nat) (mm : Nat) (mk : Nat) (many : Nat) (th : Int32) (fb : Nat → Int32) (fl : Nat → Int32) (fm : Nat → Int32) (fk : Nat → Int32) (N : Nat → Nat) (Bw : Nat → Nat → Nat) (hMR : MR fl fb N Bw) (i : Nat) (hi : i < 6) (j : Nat) (hj : j < 6) (k : Int32) (hk : k < 0 ∨ nI 2 < k) (x0 : Int32) : MU l yX6_write wsX6_write ({ frames := 60, cells := 0, slots := 0, locals := 3000 } : Room) D T g [.ref m0, .int (nI i), .int (nI j), .int k, .int x0] [(m0, .inr (3, [.ref mb, .ref ml, .ref mm, .int (nI many), .int th, .ref mk])), (mb, .inl (T 0, 1920, .inl fb)), (ml, .inl (T 0, 6, .inl fl)), (mm, .inl (T 0, 600, .inl fm)), (mk, .inl (T 0, 320, .inl fk))] sz (fun u : Nat × Int32 × (Nat → Int32) × (Nat → Int32) × (Nat → Int32) × (Nat → Int32) => some (.int (nI 0))) (fun u : Nat × Int32 × (Nat → Int32) × (Nat → Int32) × (Nat → Int32) × (Nat → Int32) => u.2.1 = nI 2 ∧ MR u.2.2.2.1 u.2.2.1 (N) (Bw)) (fun u : Nat × Int32 × (Nat → Int32) × (Nat → Int32) × (Nat → Int32) × (Nat → Int32) => [(m0, .inr (3, [.ref mb, .ref ml, .ref mm, .int (nI u.1), .int u.2.1, .ref mk])), (mb, .inl (T 0, 1920, .inl u.2.2.1)), (ml, .inl (T 0, 6, .inl u.2.2.2.1)), (mm, .inl (T 0, 600, .inl u.2.2.2.2.1)), (mk, .inl (T 0, 320, .inl u.2.2.2.2.2))]) 0 0 := by
  refine Met.ofW (cc := cX6_write) (maxL := 5) (ret := (some .int)) (by decide) rfl ?_
  intro p e s m args below meth c s₁ B hml hv
  obtain ⟨rfl, hsz, hP, hK, hD0, hG⟩ := hv
  have hx := B.exec
  have hb := B.bytes
  have hr := B.returns
  have hts := atoms_spec (ws := wsX6_write) B.pre
  have hown : s.vm.findClass RX6 = some m.cls := findClass_of_methodNamed B.named
  have hlocks := B.notSynchronized
  subst hsz
  have hD := hD0.self (sz := s.heap.size)
  generalize hAe : va_A [(m0, .inr (3, [.ref mb, .ref ml, .ref mm, .int (nI many), .int th, .ref mk])), (mb, .inl (T 0, 1920, .inl fb)), (ml, .inl (T 0, 6, .inl fl)), (mm, .inl (T 0, 600, .inl fm)), (mk, .inl (T 0, 320, .inl fk))] s.heap.size = A at hD hG ⊢
  have hA : ∀ q : Nat, s.heap.size ≤ q → A q := fun q h => by rw [← hAe]; exact Or.inr h
  have hS : va_S A s.heap s.heap [] := va_S.rf
  have hP : va_P D cls [(m0, .inr (3, [.ref mb, .ref ml, .ref mm, .int (nI many), .int th, .ref mk])), (mb, .inl (T 0, 1920, .inl fb)), (ml, .inl (T 0, 6, .inl fl)), (mm, .inl (T 0, 600, .inl fm)), (mk, .inl (T 0, 320, .inl fk))] s.heap := hP
  have hl := lv_entry ([.ref m0, .int (nI i), .int (nI j), .int k, .int x0]) (n := 5) (Nat.le_of_ble_eq_true rfl)
  rw [lg_entry_eq]
  generalize (lg_sl ([.ref m0, .int (nI i), .int (nI j), .int k, .int x0]) ++ List.replicate (5 - (lg_sl ([.ref m0, .int (nI i), .int (nI j), .int k, .int x0])).length) Slot.unset).toArray = ls at hl ⊢
  have hl : lv_has ls 5 [(0, .ref m0), (1, .int (nI i)), (2, .int (nI j)), (3, .int k), (4, .int x0)] := hl
  refine lv_aload_n hx hb dX6_write_0 rfl (lv_at hl 0 rfl) ?_
  refine lv_aload_n hx hb dX6_write_1 rfl (lv_at hl 0 rfl) ?_
  refine lv_iload_n hx hb dX6_write_2 rfl (lv_at hl 1 rfl) ?_
  refine ro_V (As := [.int (nI i)]) (rest := [.ref m0]) (wc := []) (r := .int (nI 1)) ⟨hx, hb, hml, hown, hts⟩ (c_X6_isRow_y l D T g m0 i (by omega)) (cwV 1 hts gX6_write_X6_isRow rfl rfl rfl (by decide +kernel) ⟨Nat.le_of_ble_eq_true rfl, Nat.le_of_ble_eq_true rfl⟩) (va_recv hK hP (ci := 3) (q0 := 0) rfl rfl) hP hK hG hS [] rfl ⟨Nat.zero_le _, Nat.zero_le _⟩ rfl hl.1 (Nat.le_of_ble_eq_true rfl) dX6_write_3 rfl ?_
  refine ln_if_eq_f (tgt := 17) hx hb (by omega) (by decide) dX6_write_6 (by decide) ?_
  refine lv_aload_n hx hb dX6_write_9 rfl (lv_at hl 0 rfl) ?_
  refine lv_iload_n hx hb dX6_write_10 rfl (lv_at hl 2 rfl) ?_
  refine ro_V (As := [.int (nI j)]) (rest := [.ref m0]) (wc := []) (r := .int (nI 1)) ⟨hx, hb, hml, hown, hts⟩ (c_X6_isRow_y l D T g m0 j (by omega)) (cwV 1 hts gX6_write_X6_isRow rfl rfl rfl (by decide +kernel) ⟨Nat.le_of_ble_eq_true rfl, Nat.le_of_ble_eq_true rfl⟩) (va_recv hK hP (ci := 3) (q0 := 0) rfl rfl) hP hK hG hS [] rfl ⟨Nat.zero_le _, Nat.zero_le _⟩ rfl hl.1 (Nat.le_of_ble_eq_true rfl) dX6_write_11 rfl ?_
  refine ln_if_ne_t (tgt := 21) hx hb (by omega) (by decide) dX6_write_14 (by decide) ?_
  refine lv_aload_n hx hb dX6_write_21 rfl (lv_at hl 0 rfl) ?_
  refine lv_iload_n hx hb dX6_write_22 rfl (lv_at hl 3 rfl) ?_
  refine ro_V (As := [.int k]) (rest := [.ref m0]) (wc := []) (r := .int (nI 0)) ⟨hx, hb, hml, hown, hts⟩ (c_X6_isKind_n l D T g m0 k hk) (cwV 1 hts gX6_write_X6_isKind rfl rfl rfl (by decide +kernel) ⟨Nat.le_of_ble_eq_true rfl, Nat.le_of_ble_eq_true rfl⟩) (va_recv hK hP (ci := 3) (q0 := 0) rfl rfl) hP hK hG hS [] rfl ⟨Nat.zero_le _, Nat.zero_le _⟩ rfl hl.1 (Nat.le_of_ble_eq_true rfl) dX6_write_23 rfl ?_
  refine ln_if_ne_f (tgt := 33) hx hb (by omega) (by decide) dX6_write_26 (by decide) ?_
  refine lv_iconst (v := (nI 2)) hx hb dX6_write_29 (by decide +kernel) ?_
  refine lv_goto (tgt := 34) hx hb dX6_write_30 (by decide) ?_
  refine mu_V (As := [.int (nI 2)]) (rest := []) (wc := [(m0, .inr (3, [.ref mb, .ref ml, .ref mm, .int (nI many), .int th, .ref mk]))]) (wr := [(mb, .inl (T 0, 1920, .inl fb)), (ml, .inl (T 0, 6, .inl fl)), (mm, .inl (T 0, 600, .inl fm)), (mk, .inl (T 0, 320, .inl fk))]) ⟨hx, hb, hml, hown, hts⟩ (c_X6_isWrong_p l D T g s.heap.size m0 mb ml mm mk many th 2 (by omega)) (cwV 1 hts gX6_write_X6_isWrong rfl rfl rfl (by decide +kernel) ⟨Nat.le_of_ble_eq_true rfl, Nat.le_of_ble_eq_true rfl⟩) (va_recv hK hP (ci := 3) (q0 := 0) rfl rfl) hP hD hK hG hS hA [0] [1, 2, 3, 4] rfl (by decide) rfl (by decide) (by decide) ⟨Nat.le_of_ble_eq_true rfl, Nat.le_of_ble_eq_true rfl⟩ rfl hl.1 (Nat.le_of_ble_eq_true rfl) dX6_write_34 rfl (fun u H locs hq1 hP hD hS => ?_)
  have hP : va_P D cls [(mb, .inl (T 0, 1920, .inl fb)), (ml, .inl (T 0, 6, .inl fl)), (mm, .inl (T 0, 600, .inl fm)), (mk, .inl (T 0, 320, .inl fk)), (m0, .inr (3, [.ref mb, .ref ml, .ref mm, .int (nI many), .int (nI 2), .ref mk]))] H := hP
  have hD : va_D A [(mb, .inl (T 0, 1920, .inl fb)), (ml, .inl (T 0, 6, .inl fl)), (mm, .inl (T 0, 600, .inl fm)), (mk, .inl (T 0, 320, .inl fk)), (m0, .inr (3, [.ref mb, .ref ml, .ref mm, .int (nI many), .int (nI 2), .ref mk]))] := hD
  refine W.eq (g2 := F0 m 37 ls [.int (nI 1)]) rfl ?_
  refine ln_if_eq_f (tgt := 42) hx hb (by omega) (by decide) dX6_write_37 (by decide) ?_
  refine lv_iconst (v := (nI 0)) hx hb dX6_write_40 (by decide +kernel) ?_
  have hP9 := hP.sub (ws' := [(m0, .inr (3, [.ref mb, .ref ml, .ref mm, .int (nI many), .int (nI 2), .ref mk])), (mb, .inl (T 0, 1920, .inl fb)), (ml, .inl (T 0, 6, .inl fl)), (mm, .inl (T 0, 600, .inl fm)), (mk, .inl (T 0, 320, .inl fk))]) [4, 0, 1, 2, 3] rfl
  have hD9 := hD.sub (ws' := [(m0, .inr (3, [.ref mb, .ref ml, .ref mm, .int (nI many), .int (nI 2), .ref mk])), (mb, .inl (T 0, 1920, .inl fb)), (ml, .inl (T 0, 6, .inl fl)), (mm, .inl (T 0, 600, .inl fm)), (mk, .inl (T 0, 320, .inl fk))]) [4, 0, 1, 2, 3] (by decide) rfl
  exact W.iret (v := (nI 0)) hx hb hr (fun t ht hW => ⟨⟨(many, (nI 2), fb, fl, fm, fk), rfl, show (nI 2) = nI 2 ∧ MR fl fb (N) (Bw) from ⟨rfl, hMR⟩, (by rw [ht]; exact hP9), va_K.moved hW.alike hK, hD9⟩, hS.F ht⟩) hS.2.2 dX6_write_41
set_option maxHeartbeats 4000000 in
set_option maxRecDepth 100000 in
theorem m_write_4 (l : Launch) (D : va_G) (T : Nat → ClassId) (g : Nat → Nat) (sz : Nat) (m0 : Nat) (mb : Nat) (ml : Nat) (mm : Nat) (mk : Nat) (many : Nat) (th : Int32) (fb : Nat → Int32) (fl : Nat → Int32) (fm : Nat → Int32) (fk : Nat → Int32) (N : Nat → Nat) (Bw : Nat → Nat → Nat) (hMR : MR fl fb N Bw) (i : Nat) (hi : i < 6) (j : Nat) (hj : j < 6) (k : Nat) (hk : k < 3) (fl9 : Nat) (hfl : fl9 < 2) (hm : 320 < lnN k (N i) fl9) : MU l yX6_write wsX6_write ({ frames := 60, cells := 0, slots := 0, locals := 3000 } : Room) D T g [.ref m0, .int (nI i), .int (nI j), .int (nI k), .int (nI fl9)] [(m0, .inr (3, [.ref mb, .ref ml, .ref mm, .int (nI many), .int th, .ref mk])), (mb, .inl (T 0, 1920, .inl fb)), (ml, .inl (T 0, 6, .inl fl)), (mm, .inl (T 0, 600, .inl fm)), (mk, .inl (T 0, 320, .inl fk))] sz (fun u : Nat × Int32 × (Nat → Int32) × (Nat → Int32) × (Nat → Int32) × (Nat → Int32) => some (.int (nI 0))) (fun u : Nat × Int32 × (Nat → Int32) × (Nat → Int32) × (Nat → Int32) × (Nat → Int32) => u.2.1 = nI 3 ∧ MR u.2.2.2.1 u.2.2.1 (N) (Bw)) (fun u : Nat × Int32 × (Nat → Int32) × (Nat → Int32) × (Nat → Int32) × (Nat → Int32) => [(m0, .inr (3, [.ref mb, .ref ml, .ref mm, .int (nI u.1), .int u.2.1, .ref mk])), (mb, .inl (T 0, 1920, .inl u.2.2.1)), (ml, .inl (T 0, 6, .inl u.2.2.2.1)), (mm, .inl (T 0, 600, .inl u.2.2.2.2.1)), (mk, .inl (T 0, 320, .inl u.2.2.2.2.2))]) 0 0 := by
  refine Met.ofW (cc := cX6_write) (maxL := 5) (ret := (some .int)) (by decide) rfl ?_
  intro p e s m args below meth c s₁ B hml hv
  obtain ⟨rfl, hsz, hP, hK, hD0, hG⟩ := hv
  have hx := B.exec
  have hb := B.bytes
  have hr := B.returns
  have hts := atoms_spec (ws := wsX6_write) B.pre
  have hown : s.vm.findClass RX6 = some m.cls := findClass_of_methodNamed B.named
  have hlocks := B.notSynchronized
  have hi_X6 : ∀ w ∈ wsX60, w ∈ wsX6_write := by decide +kernel
  subst hsz
  have hD := hD0.self (sz := s.heap.size)
  generalize hAe : va_A [(m0, .inr (3, [.ref mb, .ref ml, .ref mm, .int (nI many), .int th, .ref mk])), (mb, .inl (T 0, 1920, .inl fb)), (ml, .inl (T 0, 6, .inl fl)), (mm, .inl (T 0, 600, .inl fm)), (mk, .inl (T 0, 320, .inl fk))] s.heap.size = A at hD hG ⊢
  have hA : ∀ q : Nat, s.heap.size ≤ q → A q := fun q h => by rw [← hAe]; exact Or.inr h
  have hS : va_S A s.heap s.heap [] := va_S.rf
  have hP : va_P D cls [(m0, .inr (3, [.ref mb, .ref ml, .ref mm, .int (nI many), .int th, .ref mk])), (mb, .inl (T 0, 1920, .inl fb)), (ml, .inl (T 0, 6, .inl fl)), (mm, .inl (T 0, 600, .inl fm)), (mk, .inl (T 0, 320, .inl fk))] s.heap := hP
  have hl := lv_entry ([.ref m0, .int (nI i), .int (nI j), .int (nI k), .int (nI fl9)]) (n := 5) (Nat.le_of_ble_eq_true rfl)
  rw [lg_entry_eq]
  generalize (lg_sl ([.ref m0, .int (nI i), .int (nI j), .int (nI k), .int (nI fl9)]) ++ List.replicate (5 - (lg_sl ([.ref m0, .int (nI i), .int (nI j), .int (nI k), .int (nI fl9)])).length) Slot.unset).toArray = ls at hl ⊢
  have hl : lv_has ls 5 [(0, .ref m0), (1, .int (nI i)), (2, .int (nI j)), (3, .int (nI k)), (4, .int (nI fl9))] := hl
  have hrow := hMR i hi
  have hn := hrow.2.1
  have hle := lnN_le (k := k) (fl := fl9) hn
  refine lv_aload_n hx hb dX6_write_0 rfl (lv_at hl 0 rfl) ?_
  refine lv_aload_n hx hb dX6_write_1 rfl (lv_at hl 0 rfl) ?_
  refine lv_iload_n hx hb dX6_write_2 rfl (lv_at hl 1 rfl) ?_
  refine ro_V (As := [.int (nI i)]) (rest := [.ref m0]) (wc := []) (r := .int (nI 1)) ⟨hx, hb, hml, hown, hts⟩ (c_X6_isRow_y l D T g m0 i (by omega)) (cwV 1 hts gX6_write_X6_isRow rfl rfl rfl (by decide +kernel) ⟨Nat.le_of_ble_eq_true rfl, Nat.le_of_ble_eq_true rfl⟩) (va_recv hK hP (ci := 3) (q0 := 0) rfl rfl) hP hK hG hS [] rfl ⟨Nat.zero_le _, Nat.zero_le _⟩ rfl hl.1 (Nat.le_of_ble_eq_true rfl) dX6_write_3 rfl ?_
  refine ln_if_eq_f (tgt := 17) hx hb (by omega) (by decide) dX6_write_6 (by decide) ?_
  refine lv_aload_n hx hb dX6_write_9 rfl (lv_at hl 0 rfl) ?_
  refine lv_iload_n hx hb dX6_write_10 rfl (lv_at hl 2 rfl) ?_
  refine ro_V (As := [.int (nI j)]) (rest := [.ref m0]) (wc := []) (r := .int (nI 1)) ⟨hx, hb, hml, hown, hts⟩ (c_X6_isRow_y l D T g m0 j (by omega)) (cwV 1 hts gX6_write_X6_isRow rfl rfl rfl (by decide +kernel) ⟨Nat.le_of_ble_eq_true rfl, Nat.le_of_ble_eq_true rfl⟩) (va_recv hK hP (ci := 3) (q0 := 0) rfl rfl) hP hK hG hS [] rfl ⟨Nat.zero_le _, Nat.zero_le _⟩ rfl hl.1 (Nat.le_of_ble_eq_true rfl) dX6_write_11 rfl ?_
  refine ln_if_ne_t (tgt := 21) hx hb (by omega) (by decide) dX6_write_14 (by decide) ?_
  refine lv_aload_n hx hb dX6_write_21 rfl (lv_at hl 0 rfl) ?_
  refine lv_iload_n hx hb dX6_write_22 rfl (lv_at hl 3 rfl) ?_
  refine ro_V (As := [.int (nI k)]) (rest := [.ref m0]) (wc := []) (r := .int (nI 1)) ⟨hx, hb, hml, hown, hts⟩ (c_X6_isKind_y l D T g m0 k (by omega)) (cwV 1 hts gX6_write_X6_isKind rfl rfl rfl (by decide +kernel) ⟨Nat.le_of_ble_eq_true rfl, Nat.le_of_ble_eq_true rfl⟩) (va_recv hK hP (ci := 3) (q0 := 0) rfl rfl) hP hK hG hS [] rfl ⟨Nat.zero_le _, Nat.zero_le _⟩ rfl hl.1 (Nat.le_of_ble_eq_true rfl) dX6_write_23 rfl ?_
  refine ln_if_ne_t (tgt := 33) hx hb (by omega) (by decide) dX6_write_26 (by decide) ?_
  refine lv_iconst (v := (nI 0)) hx hb dX6_write_33 (by decide +kernel) ?_
  refine mu_V (As := [.int (nI 0)]) (rest := []) (wc := [(m0, .inr (3, [.ref mb, .ref ml, .ref mm, .int (nI many), .int th, .ref mk]))]) (wr := [(mb, .inl (T 0, 1920, .inl fb)), (ml, .inl (T 0, 6, .inl fl)), (mm, .inl (T 0, 600, .inl fm)), (mk, .inl (T 0, 320, .inl fk))]) ⟨hx, hb, hml, hown, hts⟩ (c_X6_isWrong_0 l D T g s.heap.size m0 mb ml mm mk many th) (cwV 1 hts gX6_write_X6_isWrong rfl rfl rfl (by decide +kernel) ⟨Nat.le_of_ble_eq_true rfl, Nat.le_of_ble_eq_true rfl⟩) (va_recv hK hP (ci := 3) (q0 := 0) rfl rfl) hP hD hK hG hS hA [0] [1, 2, 3, 4] rfl (by decide) rfl (by decide) (by decide) ⟨Nat.le_of_ble_eq_true rfl, Nat.le_of_ble_eq_true rfl⟩ rfl hl.1 (Nat.le_of_ble_eq_true rfl) dX6_write_34 rfl (fun u H locs hq1 hP hD hS => ?_)
  have hP : va_P D cls [(mb, .inl (T 0, 1920, .inl fb)), (ml, .inl (T 0, 6, .inl fl)), (mm, .inl (T 0, 600, .inl fm)), (mk, .inl (T 0, 320, .inl fk)), (m0, .inr (3, [.ref mb, .ref ml, .ref mm, .int (nI many), .int (nI 0), .ref mk]))] H := hP
  have hD : va_D A [(mb, .inl (T 0, 1920, .inl fb)), (ml, .inl (T 0, 6, .inl fl)), (mm, .inl (T 0, 600, .inl fm)), (mk, .inl (T 0, 320, .inl fk)), (m0, .inr (3, [.ref mb, .ref ml, .ref mm, .int (nI many), .int (nI 0), .ref mk]))] := hD
  refine W.eq (g2 := F0 m 37 ls [.int (nI 0)]) rfl ?_
  refine ln_if_eq_t (tgt := 42) hx hb (by omega) (by decide) dX6_write_37 (by decide) ?_
  refine lv_aload_n hx hb dX6_write_42 rfl (lv_at hl 0 rfl) ?_
  refine lv_iload_n hx hb dX6_write_43 rfl (lv_at hl 1 rfl) ?_
  refine lv_iload_n hx hb dX6_write_44 rfl (lv_at hl 3 rfl) ?_
  refine lv_iload hx hb dX6_write_45 (lv_at hl 4 rfl) ?_
  refine mu_V (As := [.int (nI i), .int (nI k), .int (nI fl9)]) (rest := []) (wc := [(m0, .inr (3, [.ref mb, .ref ml, .ref mm, .int (nI many), .int (nI 0), .ref mk])), (ml, .inl (T 0, 6, .inl fl)), (mb, .inl (T 0, 1920, .inl fb)), (mm, .inl (T 0, 600, .inl fm))]) (wr := [(mk, .inl (T 0, 320, .inl fk))]) ⟨hx, hb, hml, hown, hts⟩ (c_X6_writes l D T g H.size m0 mb ml mm mk many (nI 0) fb fl fm i (N i) (Bw i) hi ((hMR i hi).1) ((hMR i hi).2) k hk fl9 hfl) (cwV 3 hts gX6_write_X6_writes rfl rfl rfl (by decide +kernel) ⟨Nat.le_of_ble_eq_true rfl, Nat.le_of_ble_eq_true rfl⟩) (va_recv hK hP (ci := 3) (q0 := 4) rfl rfl) hP hD hK hG hS hA [4, 1, 0, 2] [3] rfl (by decide) rfl (by decide) (by decide) ⟨Nat.le_of_ble_eq_true rfl, Nat.le_of_ble_eq_true rfl⟩ rfl hl.1 (Nat.le_of_ble_eq_true rfl) dX6_write_47 rfl (fun u H locs hq3 hP hD hS => ?_)
  obtain ⟨F_2, hu9⟩ : ∃ z, z = u := ⟨_, rfl⟩
  subst hu9
  have hP : va_P D cls [(mk, .inl (T 0, 320, .inl fk)), (m0, .inr (3, [.ref mb, .ref ml, .ref mm, .int (nI (lnN k (N i) fl9)), .int (nI 0), .ref mk])), (ml, .inl (T 0, 6, .inl fl)), (mb, .inl (T 0, 1920, .inl fb)), (mm, .inl (T 0, 600, .inl F_2))] H := hP
  have hD : va_D A [(mk, .inl (T 0, 320, .inl fk)), (m0, .inr (3, [.ref mb, .ref ml, .ref mm, .int (nI (lnN k (N i) fl9)), .int (nI 0), .ref mk])), (ml, .inl (T 0, 6, .inl fl)), (mb, .inl (T 0, 1920, .inl fb)), (mm, .inl (T 0, 600, .inl F_2))] := hD
  have hp1 : MD F_2 (lnN k (N i) fl9) (wrA k (N i) (Bw i)) := hq3
  refine W.eq (g2 := F0 m 50 ls []) rfl ?_
  refine lv_aload_n hx hb dX6_write_50 rfl (lv_at hl 0 rfl) ?_
  refine lv_aload_n hx hb dX6_write_51 rfl (lv_at hl 0 rfl) ?_
  refine va_get (D := D) (ci := 3) (v := .int (nI (lnN k (N i) fl9))) (C := RX6) (T := TX6) (N := 6) hx hb hts hi_X6 hown hK hP 1 rfl rfl 3 (by decide) (hts _ (List.mem_of_getElem? (i := 1) rfl)) (fun _ h9 => h9) rfl dX6_write_52 ?_
  refine lv_sipush (v := (nI 320)) hx hb dX6_write_55 (by decide +kernel) ?_
  refine ln_icmp_le_f (tgt := 65) hx hb ⟨by omega, by omega⟩ (by omega) dX6_write_58 (by decide) ?_
  refine lv_iconst (v := (nI 3)) hx hb dX6_write_61 (by decide +kernel) ?_
  refine lv_goto (tgt := 66) hx hb dX6_write_62 (by decide) ?_
  refine mu_V (As := [.int (nI 3)]) (rest := []) (wc := [(m0, .inr (3, [.ref mb, .ref ml, .ref mm, .int (nI (lnN k (N i) fl9)), .int (nI 0), .ref mk]))]) (wr := [(mk, .inl (T 0, 320, .inl fk)), (ml, .inl (T 0, 6, .inl fl)), (mb, .inl (T 0, 1920, .inl fb)), (mm, .inl (T 0, 600, .inl F_2))]) ⟨hx, hb, hml, hown, hts⟩ (c_X6_isWrong_p l D T g H.size m0 mb ml mm mk (lnN k (N i) fl9) (nI 0) 3 (by omega)) (cwV 1 hts gX6_write_X6_isWrong rfl rfl rfl (by decide +kernel) ⟨Nat.le_of_ble_eq_true rfl, Nat.le_of_ble_eq_true rfl⟩) (va_recv hK hP (ci := 3) (q0 := 1) rfl rfl) hP hD hK hG hS hA [1] [0, 2, 3, 4] rfl (by decide) rfl (by decide) (by decide) ⟨Nat.le_of_ble_eq_true rfl, Nat.le_of_ble_eq_true rfl⟩ rfl hl.1 (Nat.le_of_ble_eq_true rfl) dX6_write_66 rfl (fun u H locs hq4 hP hD hS => ?_)
  have hP : va_P D cls [(mk, .inl (T 0, 320, .inl fk)), (ml, .inl (T 0, 6, .inl fl)), (mb, .inl (T 0, 1920, .inl fb)), (mm, .inl (T 0, 600, .inl F_2)), (m0, .inr (3, [.ref mb, .ref ml, .ref mm, .int (nI (lnN k (N i) fl9)), .int (nI 3), .ref mk]))] H := hP
  have hD : va_D A [(mk, .inl (T 0, 320, .inl fk)), (ml, .inl (T 0, 6, .inl fl)), (mb, .inl (T 0, 1920, .inl fb)), (mm, .inl (T 0, 600, .inl F_2)), (m0, .inr (3, [.ref mb, .ref ml, .ref mm, .int (nI (lnN k (N i) fl9)), .int (nI 3), .ref mk]))] := hD
  refine W.eq (g2 := F0 m 69 ls [.int (nI 1)]) rfl ?_
  refine ln_if_eq_f (tgt := 76) hx hb (by omega) (by decide) dX6_write_69 (by decide) ?_
  refine lv_iconst (v := (nI 0)) hx hb dX6_write_72 (by decide +kernel) ?_
  refine lv_goto (tgt := 81) hx hb dX6_write_73 (by decide) ?_
  have hP9 := hP.sub (ws' := [(m0, .inr (3, [.ref mb, .ref ml, .ref mm, .int (nI (lnN k (N i) fl9)), .int (nI 3), .ref mk])), (mb, .inl (T 0, 1920, .inl fb)), (ml, .inl (T 0, 6, .inl fl)), (mm, .inl (T 0, 600, .inl F_2)), (mk, .inl (T 0, 320, .inl fk))]) [4, 2, 1, 3, 0] rfl
  have hD9 := hD.sub (ws' := [(m0, .inr (3, [.ref mb, .ref ml, .ref mm, .int (nI (lnN k (N i) fl9)), .int (nI 3), .ref mk])), (mb, .inl (T 0, 1920, .inl fb)), (ml, .inl (T 0, 6, .inl fl)), (mm, .inl (T 0, 600, .inl F_2)), (mk, .inl (T 0, 320, .inl fk))]) [4, 2, 1, 3, 0] (by decide) rfl
  exact W.iret (v := (nI 0)) hx hb hr (fun t ht hW => ⟨⟨((lnN k (N i) fl9), (nI 3), fb, fl, F_2, fk), rfl, show (nI 3) = nI 3 ∧ MR fl fb (N) (Bw) from ⟨rfl, hMR⟩, (by rw [ht]; exact hP9), va_K.moved hW.alike hK, hD9⟩, hS.F ht⟩) hS.2.2 dX6_write_81
set_option maxHeartbeats 4000000 in
set_option maxRecDepth 100000 in
theorem m_write (l : Launch) (D : va_G) (T : Nat → ClassId) (g : Nat → Nat) (sz : Nat) (m0 : Nat) (mb : Nat) (ml : Nat) (mm : Nat) (mk : Nat) (many : Nat) (th : Int32) (fb : Nat → Int32) (fl : Nat → Int32) (fm : Nat → Int32) (fk : Nat → Int32) (N : Nat → Nat) (Bw : Nat → Nat → Nat) (hMR : MR fl fb N Bw) (i : Nat) (hi : i < 6) (j : Nat) (hj : j < 6) (k : Nat) (hk : k < 3) (fl9 : Nat) (hfl : fl9 < 2) (hm : lnN k (N i) fl9 ≤ 320) : MU l yX6_write wsX6_write ({ frames := 60, cells := 0, slots := 0, locals := 3000 } : Room) D T g [.ref m0, .int (nI i), .int (nI j), .int (nI k), .int (nI fl9)] [(m0, .inr (3, [.ref mb, .ref ml, .ref mm, .int (nI many), .int th, .ref mk])), (mb, .inl (T 0, 1920, .inl fb)), (ml, .inl (T 0, 6, .inl fl)), (mm, .inl (T 0, 600, .inl fm)), (mk, .inl (T 0, 320, .inl fk))] sz (fun u : Nat × Int32 × (Nat → Int32) × (Nat → Int32) × (Nat → Int32) × (Nat → Int32) => some (.int (nI (lnN k (N i) fl9)))) (fun u : Nat × Int32 × (Nat → Int32) × (Nat → Int32) × (Nat → Int32) × (Nat → Int32) => u.2.1 = nI 0 ∧ MR u.2.2.2.1 u.2.2.1 (upA N j (lnN k (N i) fl9)) (upA Bw j (wrA k (N i) (Bw i)))) (fun u : Nat × Int32 × (Nat → Int32) × (Nat → Int32) × (Nat → Int32) × (Nat → Int32) => [(m0, .inr (3, [.ref mb, .ref ml, .ref mm, .int (nI u.1), .int u.2.1, .ref mk])), (mb, .inl (T 0, 1920, .inl u.2.2.1)), (ml, .inl (T 0, 6, .inl u.2.2.2.1)), (mm, .inl (T 0, 600, .inl u.2.2.2.2.1)), (mk, .inl (T 0, 320, .inl u.2.2.2.2.2))]) 0 0 := by
  refine Met.ofW (cc := cX6_write) (maxL := 5) (ret := (some .int)) (by decide) rfl ?_
  intro p e s m args below meth c s₁ B hml hv
  obtain ⟨rfl, hsz, hP, hK, hD0, hG⟩ := hv
  have hx := B.exec
  have hb := B.bytes
  have hr := B.returns
  have hts := atoms_spec (ws := wsX6_write) B.pre
  have hown : s.vm.findClass RX6 = some m.cls := findClass_of_methodNamed B.named
  have hlocks := B.notSynchronized
  have hi_X6 : ∀ w ∈ wsX60, w ∈ wsX6_write := by decide +kernel
  subst hsz
  have hD := hD0.self (sz := s.heap.size)
  generalize hAe : va_A [(m0, .inr (3, [.ref mb, .ref ml, .ref mm, .int (nI many), .int th, .ref mk])), (mb, .inl (T 0, 1920, .inl fb)), (ml, .inl (T 0, 6, .inl fl)), (mm, .inl (T 0, 600, .inl fm)), (mk, .inl (T 0, 320, .inl fk))] s.heap.size = A at hD hG ⊢
  have hA : ∀ q : Nat, s.heap.size ≤ q → A q := fun q h => by rw [← hAe]; exact Or.inr h
  have hS : va_S A s.heap s.heap [] := va_S.rf
  have hP : va_P D cls [(m0, .inr (3, [.ref mb, .ref ml, .ref mm, .int (nI many), .int th, .ref mk])), (mb, .inl (T 0, 1920, .inl fb)), (ml, .inl (T 0, 6, .inl fl)), (mm, .inl (T 0, 600, .inl fm)), (mk, .inl (T 0, 320, .inl fk))] s.heap := hP
  have hl := lv_entry ([.ref m0, .int (nI i), .int (nI j), .int (nI k), .int (nI fl9)]) (n := 5) (Nat.le_of_ble_eq_true rfl)
  rw [lg_entry_eq]
  generalize (lg_sl ([.ref m0, .int (nI i), .int (nI j), .int (nI k), .int (nI fl9)]) ++ List.replicate (5 - (lg_sl ([.ref m0, .int (nI i), .int (nI j), .int (nI k), .int (nI fl9)])).length) Slot.unset).toArray = ls at hl ⊢
  have hl : lv_has ls 5 [(0, .ref m0), (1, .int (nI i)), (2, .int (nI j)), (3, .int (nI k)), (4, .int (nI fl9))] := hl
  have hrow := hMR i hi
  have hn := hrow.2.1
  have hle := lnN_le (k := k) (fl := fl9) hn
  refine lv_aload_n hx hb dX6_write_0 rfl (lv_at hl 0 rfl) ?_
  refine lv_aload_n hx hb dX6_write_1 rfl (lv_at hl 0 rfl) ?_
  refine lv_iload_n hx hb dX6_write_2 rfl (lv_at hl 1 rfl) ?_
  refine ro_V (As := [.int (nI i)]) (rest := [.ref m0]) (wc := []) (r := .int (nI 1)) ⟨hx, hb, hml, hown, hts⟩ (c_X6_isRow_y l D T g m0 i (by omega)) (cwV 1 hts gX6_write_X6_isRow rfl rfl rfl (by decide +kernel) ⟨Nat.le_of_ble_eq_true rfl, Nat.le_of_ble_eq_true rfl⟩) (va_recv hK hP (ci := 3) (q0 := 0) rfl rfl) hP hK hG hS [] rfl ⟨Nat.zero_le _, Nat.zero_le _⟩ rfl hl.1 (Nat.le_of_ble_eq_true rfl) dX6_write_3 rfl ?_
  refine ln_if_eq_f (tgt := 17) hx hb (by omega) (by decide) dX6_write_6 (by decide) ?_
  refine lv_aload_n hx hb dX6_write_9 rfl (lv_at hl 0 rfl) ?_
  refine lv_iload_n hx hb dX6_write_10 rfl (lv_at hl 2 rfl) ?_
  refine ro_V (As := [.int (nI j)]) (rest := [.ref m0]) (wc := []) (r := .int (nI 1)) ⟨hx, hb, hml, hown, hts⟩ (c_X6_isRow_y l D T g m0 j (by omega)) (cwV 1 hts gX6_write_X6_isRow rfl rfl rfl (by decide +kernel) ⟨Nat.le_of_ble_eq_true rfl, Nat.le_of_ble_eq_true rfl⟩) (va_recv hK hP (ci := 3) (q0 := 0) rfl rfl) hP hK hG hS [] rfl ⟨Nat.zero_le _, Nat.zero_le _⟩ rfl hl.1 (Nat.le_of_ble_eq_true rfl) dX6_write_11 rfl ?_
  refine ln_if_ne_t (tgt := 21) hx hb (by omega) (by decide) dX6_write_14 (by decide) ?_
  refine lv_aload_n hx hb dX6_write_21 rfl (lv_at hl 0 rfl) ?_
  refine lv_iload_n hx hb dX6_write_22 rfl (lv_at hl 3 rfl) ?_
  refine ro_V (As := [.int (nI k)]) (rest := [.ref m0]) (wc := []) (r := .int (nI 1)) ⟨hx, hb, hml, hown, hts⟩ (c_X6_isKind_y l D T g m0 k (by omega)) (cwV 1 hts gX6_write_X6_isKind rfl rfl rfl (by decide +kernel) ⟨Nat.le_of_ble_eq_true rfl, Nat.le_of_ble_eq_true rfl⟩) (va_recv hK hP (ci := 3) (q0 := 0) rfl rfl) hP hK hG hS [] rfl ⟨Nat.zero_le _, Nat.zero_le _⟩ rfl hl.1 (Nat.le_of_ble_eq_true rfl) dX6_write_23 rfl ?_
  refine ln_if_ne_t (tgt := 33) hx hb (by omega) (by decide) dX6_write_26 (by decide) ?_
  refine lv_iconst (v := (nI 0)) hx hb dX6_write_33 (by decide +kernel) ?_
  refine mu_V (As := [.int (nI 0)]) (rest := []) (wc := [(m0, .inr (3, [.ref mb, .ref ml, .ref mm, .int (nI many), .int th, .ref mk]))]) (wr := [(mb, .inl (T 0, 1920, .inl fb)), (ml, .inl (T 0, 6, .inl fl)), (mm, .inl (T 0, 600, .inl fm)), (mk, .inl (T 0, 320, .inl fk))]) ⟨hx, hb, hml, hown, hts⟩ (c_X6_isWrong_0 l D T g s.heap.size m0 mb ml mm mk many th) (cwV 1 hts gX6_write_X6_isWrong rfl rfl rfl (by decide +kernel) ⟨Nat.le_of_ble_eq_true rfl, Nat.le_of_ble_eq_true rfl⟩) (va_recv hK hP (ci := 3) (q0 := 0) rfl rfl) hP hD hK hG hS hA [0] [1, 2, 3, 4] rfl (by decide) rfl (by decide) (by decide) ⟨Nat.le_of_ble_eq_true rfl, Nat.le_of_ble_eq_true rfl⟩ rfl hl.1 (Nat.le_of_ble_eq_true rfl) dX6_write_34 rfl (fun u H locs hq1 hP hD hS => ?_)
  have hP : va_P D cls [(mb, .inl (T 0, 1920, .inl fb)), (ml, .inl (T 0, 6, .inl fl)), (mm, .inl (T 0, 600, .inl fm)), (mk, .inl (T 0, 320, .inl fk)), (m0, .inr (3, [.ref mb, .ref ml, .ref mm, .int (nI many), .int (nI 0), .ref mk]))] H := hP
  have hD : va_D A [(mb, .inl (T 0, 1920, .inl fb)), (ml, .inl (T 0, 6, .inl fl)), (mm, .inl (T 0, 600, .inl fm)), (mk, .inl (T 0, 320, .inl fk)), (m0, .inr (3, [.ref mb, .ref ml, .ref mm, .int (nI many), .int (nI 0), .ref mk]))] := hD
  refine W.eq (g2 := F0 m 37 ls [.int (nI 0)]) rfl ?_
  refine ln_if_eq_t (tgt := 42) hx hb (by omega) (by decide) dX6_write_37 (by decide) ?_
  refine lv_aload_n hx hb dX6_write_42 rfl (lv_at hl 0 rfl) ?_
  refine lv_iload_n hx hb dX6_write_43 rfl (lv_at hl 1 rfl) ?_
  refine lv_iload_n hx hb dX6_write_44 rfl (lv_at hl 3 rfl) ?_
  refine lv_iload hx hb dX6_write_45 (lv_at hl 4 rfl) ?_
  refine mu_V (As := [.int (nI i), .int (nI k), .int (nI fl9)]) (rest := []) (wc := [(m0, .inr (3, [.ref mb, .ref ml, .ref mm, .int (nI many), .int (nI 0), .ref mk])), (ml, .inl (T 0, 6, .inl fl)), (mb, .inl (T 0, 1920, .inl fb)), (mm, .inl (T 0, 600, .inl fm))]) (wr := [(mk, .inl (T 0, 320, .inl fk))]) ⟨hx, hb, hml, hown, hts⟩ (c_X6_writes l D T g H.size m0 mb ml mm mk many (nI 0) fb fl fm i (N i) (Bw i) hi ((hMR i hi).1) ((hMR i hi).2) k hk fl9 hfl) (cwV 3 hts gX6_write_X6_writes rfl rfl rfl (by decide +kernel) ⟨Nat.le_of_ble_eq_true rfl, Nat.le_of_ble_eq_true rfl⟩) (va_recv hK hP (ci := 3) (q0 := 4) rfl rfl) hP hD hK hG hS hA [4, 1, 0, 2] [3] rfl (by decide) rfl (by decide) (by decide) ⟨Nat.le_of_ble_eq_true rfl, Nat.le_of_ble_eq_true rfl⟩ rfl hl.1 (Nat.le_of_ble_eq_true rfl) dX6_write_47 rfl (fun u H locs hq3 hP hD hS => ?_)
  obtain ⟨F_2, hu9⟩ : ∃ z, z = u := ⟨_, rfl⟩
  subst hu9
  have hP : va_P D cls [(mk, .inl (T 0, 320, .inl fk)), (m0, .inr (3, [.ref mb, .ref ml, .ref mm, .int (nI (lnN k (N i) fl9)), .int (nI 0), .ref mk])), (ml, .inl (T 0, 6, .inl fl)), (mb, .inl (T 0, 1920, .inl fb)), (mm, .inl (T 0, 600, .inl F_2))] H := hP
  have hD : va_D A [(mk, .inl (T 0, 320, .inl fk)), (m0, .inr (3, [.ref mb, .ref ml, .ref mm, .int (nI (lnN k (N i) fl9)), .int (nI 0), .ref mk])), (ml, .inl (T 0, 6, .inl fl)), (mb, .inl (T 0, 1920, .inl fb)), (mm, .inl (T 0, 600, .inl F_2))] := hD
  have hp1 : MD F_2 (lnN k (N i) fl9) (wrA k (N i) (Bw i)) := hq3
  refine W.eq (g2 := F0 m 50 ls []) rfl ?_
  refine lv_aload_n hx hb dX6_write_50 rfl (lv_at hl 0 rfl) ?_
  refine lv_aload_n hx hb dX6_write_51 rfl (lv_at hl 0 rfl) ?_
  refine va_get (D := D) (ci := 3) (v := .int (nI (lnN k (N i) fl9))) (C := RX6) (T := TX6) (N := 6) hx hb hts hi_X6 hown hK hP 1 rfl rfl 3 (by decide) (hts _ (List.mem_of_getElem? (i := 1) rfl)) (fun _ h9 => h9) rfl dX6_write_52 ?_
  refine lv_sipush (v := (nI 320)) hx hb dX6_write_55 (by decide +kernel) ?_
  refine ln_icmp_le_t (tgt := 65) hx hb ⟨by omega, by omega⟩ (by omega) dX6_write_58 (by decide) ?_
  refine lv_iconst (v := (nI 0)) hx hb dX6_write_65 (by decide +kernel) ?_
  refine mu_V (As := [.int (nI 0)]) (rest := []) (wc := [(m0, .inr (3, [.ref mb, .ref ml, .ref mm, .int (nI (lnN k (N i) fl9)), .int (nI 0), .ref mk]))]) (wr := [(mk, .inl (T 0, 320, .inl fk)), (ml, .inl (T 0, 6, .inl fl)), (mb, .inl (T 0, 1920, .inl fb)), (mm, .inl (T 0, 600, .inl F_2))]) ⟨hx, hb, hml, hown, hts⟩ (c_X6_isWrong_0 l D T g H.size m0 mb ml mm mk (lnN k (N i) fl9) (nI 0)) (cwV 1 hts gX6_write_X6_isWrong rfl rfl rfl (by decide +kernel) ⟨Nat.le_of_ble_eq_true rfl, Nat.le_of_ble_eq_true rfl⟩) (va_recv hK hP (ci := 3) (q0 := 1) rfl rfl) hP hD hK hG hS hA [1] [0, 2, 3, 4] rfl (by decide) rfl (by decide) (by decide) ⟨Nat.le_of_ble_eq_true rfl, Nat.le_of_ble_eq_true rfl⟩ rfl hl.1 (Nat.le_of_ble_eq_true rfl) dX6_write_66 rfl (fun u H locs hq4 hP hD hS => ?_)
  have hP : va_P D cls [(mk, .inl (T 0, 320, .inl fk)), (ml, .inl (T 0, 6, .inl fl)), (mb, .inl (T 0, 1920, .inl fb)), (mm, .inl (T 0, 600, .inl F_2)), (m0, .inr (3, [.ref mb, .ref ml, .ref mm, .int (nI (lnN k (N i) fl9)), .int (nI 0), .ref mk]))] H := hP
  have hD : va_D A [(mk, .inl (T 0, 320, .inl fk)), (ml, .inl (T 0, 6, .inl fl)), (mb, .inl (T 0, 1920, .inl fb)), (mm, .inl (T 0, 600, .inl F_2)), (m0, .inr (3, [.ref mb, .ref ml, .ref mm, .int (nI (lnN k (N i) fl9)), .int (nI 0), .ref mk]))] := hD
  refine W.eq (g2 := F0 m 69 ls [.int (nI 0)]) rfl ?_
  refine ln_if_eq_t (tgt := 76) hx hb (by omega) (by decide) dX6_write_69 (by decide) ?_
  refine lv_aload_n hx hb dX6_write_76 rfl (lv_at hl 0 rfl) ?_
  refine lv_iload_n hx hb dX6_write_77 rfl (lv_at hl 2 rfl) ?_
  refine mu_V (As := [.int (nI j)]) (rest := []) (wc := [(m0, .inr (3, [.ref mb, .ref ml, .ref mm, .int (nI (lnN k (N i) fl9)), .int (nI 0), .ref mk])), (mb, .inl (T 0, 1920, .inl fb)), (ml, .inl (T 0, 6, .inl fl)), (mm, .inl (T 0, 600, .inl F_2))]) (wr := [(mk, .inl (T 0, 320, .inl fk))]) ⟨hx, hb, hml, hown, hts⟩ (c_X6_becomes l D T g H.size m0 mb ml mm mk (lnN k (N i) fl9) (nI 0) fb fl F_2 j (wrA k (N i) (Bw i)) hj (hp1) (by omega)) (cwV 1 hts gX6_write_X6_becomes rfl rfl rfl (by decide +kernel) ⟨Nat.le_of_ble_eq_true rfl, Nat.le_of_ble_eq_true rfl⟩) (va_recv hK hP (ci := 3) (q0 := 4) rfl rfl) hP hD hK hG hS hA [4, 2, 1, 3] [0] rfl (by decide) rfl (by decide) (by decide) ⟨Nat.le_of_ble_eq_true rfl, Nat.le_of_ble_eq_true rfl⟩ rfl hl.1 (Nat.le_of_ble_eq_true rfl) dX6_write_78 rfl (fun u H locs hq6 hP hD hS => ?_)
  obtain ⟨F_5, hu9⟩ : ∃ z, z = u := ⟨_, rfl⟩
  subst hu9
  have hP : va_P D cls [(mk, .inl (T 0, 320, .inl fk)), (m0, .inr (3, [.ref mb, .ref ml, .ref mm, .int (nI (lnN k (N i) fl9)), .int (nI 0), .ref mk])), (mb, .inl (T 0, 1920, .inl F_5)), (ml, .inl (T 0, 6, .inl (upd fl j (nI (lnN k (N i) fl9))))), (mm, .inl (T 0, 600, .inl F_2))] H := hP
  have hD : va_D A [(mk, .inl (T 0, 320, .inl fk)), (m0, .inr (3, [.ref mb, .ref ml, .ref mm, .int (nI (lnN k (N i) fl9)), .int (nI 0), .ref mk])), (mb, .inl (T 0, 1920, .inl F_5)), (ml, .inl (T 0, 6, .inl (upd fl j (nI (lnN k (N i) fl9))))), (mm, .inl (T 0, 600, .inl F_2))] := hD
  have hp2 : RW F_5 j (lnN k (N i) fl9) (wrA k (N i) (Bw i)) ∧ ∀ q, q < 320 * j ∨ 320 * j + 320 ≤ q → F_5 q = fb q := hq6
  refine W.eq (g2 := F0 m 81 ls [.int (nI (lnN k (N i) fl9))]) rfl ?_
  have hP9 := hP.sub (ws' := [(m0, .inr (3, [.ref mb, .ref ml, .ref mm, .int (nI (lnN k (N i) fl9)), .int (nI 0), .ref mk])), (mb, .inl (T 0, 1920, .inl F_5)), (ml, .inl (T 0, 6, .inl (upd fl j (nI (lnN k (N i) fl9))))), (mm, .inl (T 0, 600, .inl F_2)), (mk, .inl (T 0, 320, .inl fk))]) [1, 2, 3, 4, 0] rfl
  have hD9 := hD.sub (ws' := [(m0, .inr (3, [.ref mb, .ref ml, .ref mm, .int (nI (lnN k (N i) fl9)), .int (nI 0), .ref mk])), (mb, .inl (T 0, 1920, .inl F_5)), (ml, .inl (T 0, 6, .inl (upd fl j (nI (lnN k (N i) fl9))))), (mm, .inl (T 0, 600, .inl F_2)), (mk, .inl (T 0, 320, .inl fk))]) [1, 2, 3, 4, 0] (by decide) rfl
  exact W.iret (v := (nI (lnN k (N i) fl9))) hx hb hr (fun t ht hW => ⟨⟨((lnN k (N i) fl9), (nI 0), F_5, upd fl j (nI (lnN k (N i) fl9)), F_2, fk), rfl, show (nI 0) = nI 0 ∧ MR (upd fl j (nI (lnN k (N i) fl9))) F_5 (upA N j (lnN k (N i) fl9)) (upA Bw j (wrA k (N i) (Bw i))) from ⟨rfl, MR_upd hMR pk_us (fun z _ hne => pk_un hne) hp2.1 hp2.2⟩, (by rw [ht]; exact hP9), va_K.moved hW.alike hK, hD9⟩, hS.F ht⟩) hS.2.2 dX6_write_81
set_option maxHeartbeats 4000000 in
set_option maxRecDepth 100000 in
theorem m_writeText_1 (l : Launch) (D : va_G) (T : Nat → ClassId) (g : Nat → Nat) (sz : Nat) (m0 : Nat) (mb : Nat) (ml : Nat) (mm : Nat) (mk : Nat) (many : Nat) (th : Int32) (fb : Nat → Int32) (fl : Nat → Int32) (fm : Nat → Int32) (fk : Nat → Int32) (N : Nat → Nat) (Bw : Nat → Nat → Nat) (hMR : MR fl fb N Bw) (i : Int32) (hi : i < 0 ∨ nI 5 < i) (x0 : Int32) (x1 : Int32) (x2 : Int32) : MU l yX6_writeText wsX6_writeText ({ frames := 62, cells := 0, slots := 0, locals := 3100 } : Room) D T g [.ref m0, .int i, .int x0, .int x1, .int x2] [(m0, .inr (3, [.ref mb, .ref ml, .ref mm, .int (nI many), .int th, .ref mk])), (mb, .inl (T 0, 1920, .inl fb)), (ml, .inl (T 0, 6, .inl fl)), (mm, .inl (T 0, 600, .inl fm)), (mk, .inl (T 0, 320, .inl fk))] sz (fun u : Nat × Int32 × (Nat → Int32) × (Nat → Int32) × (Nat → Int32) × (Nat → Int32) => some (.int (nI 0))) (fun u : Nat × Int32 × (Nat → Int32) × (Nat → Int32) × (Nat → Int32) × (Nat → Int32) => u.2.1 = nI 1 ∧ MR u.2.2.2.1 u.2.2.1 (N) (Bw)) (fun u : Nat × Int32 × (Nat → Int32) × (Nat → Int32) × (Nat → Int32) × (Nat → Int32) => [(m0, .inr (3, [.ref mb, .ref ml, .ref mm, .int (nI u.1), .int u.2.1, .ref mk])), (mb, .inl (T 0, 1920, .inl u.2.2.1)), (ml, .inl (T 0, 6, .inl u.2.2.2.1)), (mm, .inl (T 0, 600, .inl u.2.2.2.2.1)), (mk, .inl (T 0, 320, .inl u.2.2.2.2.2))]) 0 0 := by
  refine Met.ofW (cc := cX6_writeText) (maxL := 5) (ret := (some .int)) (by decide) rfl ?_
  intro p e s m args below meth c s₁ B hml hv
  obtain ⟨rfl, hsz, hP, hK, hD0, hG⟩ := hv
  have hx := B.exec
  have hb := B.bytes
  have hr := B.returns
  have hts := atoms_spec (ws := wsX6_writeText) B.pre
  have hown : s.vm.findClass RX6 = some m.cls := findClass_of_methodNamed B.named
  have hlocks := B.notSynchronized
  subst hsz
  have hD := hD0.self (sz := s.heap.size)
  generalize hAe : va_A [(m0, .inr (3, [.ref mb, .ref ml, .ref mm, .int (nI many), .int th, .ref mk])), (mb, .inl (T 0, 1920, .inl fb)), (ml, .inl (T 0, 6, .inl fl)), (mm, .inl (T 0, 600, .inl fm)), (mk, .inl (T 0, 320, .inl fk))] s.heap.size = A at hD hG ⊢
  have hA : ∀ q : Nat, s.heap.size ≤ q → A q := fun q h => by rw [← hAe]; exact Or.inr h
  have hS : va_S A s.heap s.heap [] := va_S.rf
  have hP : va_P D cls [(m0, .inr (3, [.ref mb, .ref ml, .ref mm, .int (nI many), .int th, .ref mk])), (mb, .inl (T 0, 1920, .inl fb)), (ml, .inl (T 0, 6, .inl fl)), (mm, .inl (T 0, 600, .inl fm)), (mk, .inl (T 0, 320, .inl fk))] s.heap := hP
  have hl := lv_entry ([.ref m0, .int i, .int x0, .int x1, .int x2]) (n := 5) (Nat.le_of_ble_eq_true rfl)
  rw [lg_entry_eq]
  generalize (lg_sl ([.ref m0, .int i, .int x0, .int x1, .int x2]) ++ List.replicate (5 - (lg_sl ([.ref m0, .int i, .int x0, .int x1, .int x2])).length) Slot.unset).toArray = ls at hl ⊢
  have hl : lv_has ls 5 [(0, .ref m0), (1, .int i), (2, .int x0), (3, .int x1), (4, .int x2)] := hl
  refine lv_aload_n hx hb dX6_writeText_0 rfl (lv_at hl 0 rfl) ?_
  refine lv_iload_n hx hb dX6_writeText_1 rfl (lv_at hl 1 rfl) ?_
  refine lv_iload_n hx hb dX6_writeText_2 rfl (lv_at hl 2 rfl) ?_
  refine lv_iload_n hx hb dX6_writeText_3 rfl (lv_at hl 3 rfl) ?_
  refine lv_iload hx hb dX6_writeText_4 (lv_at hl 4 rfl) ?_
  refine mu_V (As := [.int i, .int x0, .int x1, .int x2]) (rest := []) (wc := [(m0, .inr (3, [.ref mb, .ref ml, .ref mm, .int (nI many), .int th, .ref mk])), (mb, .inl (T 0, 1920, .inl fb)), (ml, .inl (T 0, 6, .inl fl)), (mm, .inl (T 0, 600, .inl fm)), (mk, .inl (T 0, 320, .inl fk))]) (wr := []) ⟨hx, hb, hml, hown, hts⟩ (m_write_1 l D T g s.heap.size m0 mb ml mm mk many th fb fl fm fk N Bw (hMR) i hi x0 x1 x2) (cwV 4 hts gX6_writeText_X6_write rfl rfl rfl (by decide +kernel) ⟨Nat.le_of_ble_eq_true rfl, Nat.le_of_ble_eq_true rfl⟩) (va_recv hK hP (ci := 3) (q0 := 0) rfl rfl) hP hD hK hG hS hA [0, 1, 2, 3, 4] [] rfl (by decide) rfl (by decide) (by decide) ⟨Nat.le_of_ble_eq_true rfl, Nat.le_of_ble_eq_true rfl⟩ rfl hl.1 (Nat.le_of_ble_eq_true rfl) dX6_writeText_6 rfl (fun u H locs hq7 hP hD hS => ?_)
  obtain ⟨many2_1, th2_2, fb2_3, fl2_4, fm2_5, fk2_6⟩ := u
  have hP : va_P D cls [(m0, .inr (3, [.ref mb, .ref ml, .ref mm, .int (nI many2_1), .int th2_2, .ref mk])), (mb, .inl (T 0, 1920, .inl fb2_3)), (ml, .inl (T 0, 6, .inl fl2_4)), (mm, .inl (T 0, 600, .inl fm2_5)), (mk, .inl (T 0, 320, .inl fk2_6))] H := hP
  have hD : va_D A [(m0, .inr (3, [.ref mb, .ref ml, .ref mm, .int (nI many2_1), .int th2_2, .ref mk])), (mb, .inl (T 0, 1920, .inl fb2_3)), (ml, .inl (T 0, 6, .inl fl2_4)), (mm, .inl (T 0, 600, .inl fm2_5)), (mk, .inl (T 0, 320, .inl fk2_6))] := hD
  have hp1 : th2_2 = nI 1 ∧ MR fl2_4 fb2_3 (N) (Bw) := hq7
  refine W.eq (g2 := F0 m 9 ls [.int (nI 0)]) rfl ?_
  have hP9 := hP.sub (ws' := [(m0, .inr (3, [.ref mb, .ref ml, .ref mm, .int (nI many2_1), .int th2_2, .ref mk])), (mb, .inl (T 0, 1920, .inl fb2_3)), (ml, .inl (T 0, 6, .inl fl2_4)), (mm, .inl (T 0, 600, .inl fm2_5)), (mk, .inl (T 0, 320, .inl fk2_6))]) [0, 1, 2, 3, 4] rfl
  have hD9 := hD.sub (ws' := [(m0, .inr (3, [.ref mb, .ref ml, .ref mm, .int (nI many2_1), .int th2_2, .ref mk])), (mb, .inl (T 0, 1920, .inl fb2_3)), (ml, .inl (T 0, 6, .inl fl2_4)), (mm, .inl (T 0, 600, .inl fm2_5)), (mk, .inl (T 0, 320, .inl fk2_6))]) [0, 1, 2, 3, 4] (by decide) rfl
  exact W.iret (v := (nI 0)) hx hb hr (fun t ht hW => ⟨⟨(many2_1, th2_2, fb2_3, fl2_4, fm2_5, fk2_6), rfl, show th2_2 = nI 1 ∧ MR fl2_4 fb2_3 (N) (Bw) from hp1, (by rw [ht]; exact hP9), va_K.moved hW.alike hK, hD9⟩, hS.F ht⟩) hS.2.2 dX6_writeText_9
set_option maxHeartbeats 4000000 in
set_option maxRecDepth 100000 in
theorem m_writeText_2 (l : Launch) (D : va_G) (T : Nat → ClassId) (g : Nat → Nat) (sz : Nat) (m0 : Nat) (mb : Nat) (ml : Nat) (mm : Nat) (mk : Nat) (many : Nat) (th : Int32) (fb : Nat → Int32) (fl : Nat → Int32) (fm : Nat → Int32) (fk : Nat → Int32) (N : Nat → Nat) (Bw : Nat → Nat → Nat) (hMR : MR fl fb N Bw) (i : Nat) (hi : i < 6) (j : Int32) (hj : j < 0 ∨ nI 5 < j) (x0 : Int32) (x1 : Int32) : MU l yX6_writeText wsX6_writeText ({ frames := 62, cells := 0, slots := 0, locals := 3100 } : Room) D T g [.ref m0, .int (nI i), .int j, .int x0, .int x1] [(m0, .inr (3, [.ref mb, .ref ml, .ref mm, .int (nI many), .int th, .ref mk])), (mb, .inl (T 0, 1920, .inl fb)), (ml, .inl (T 0, 6, .inl fl)), (mm, .inl (T 0, 600, .inl fm)), (mk, .inl (T 0, 320, .inl fk))] sz (fun u : Nat × Int32 × (Nat → Int32) × (Nat → Int32) × (Nat → Int32) × (Nat → Int32) => some (.int (nI 0))) (fun u : Nat × Int32 × (Nat → Int32) × (Nat → Int32) × (Nat → Int32) × (Nat → Int32) => u.2.1 = nI 1 ∧ MR u.2.2.2.1 u.2.2.1 (N) (Bw)) (fun u : Nat × Int32 × (Nat → Int32) × (Nat → Int32) × (Nat → Int32) × (Nat → Int32) => [(m0, .inr (3, [.ref mb, .ref ml, .ref mm, .int (nI u.1), .int u.2.1, .ref mk])), (mb, .inl (T 0, 1920, .inl u.2.2.1)), (ml, .inl (T 0, 6, .inl u.2.2.2.1)), (mm, .inl (T 0, 600, .inl u.2.2.2.2.1)), (mk, .inl (T 0, 320, .inl u.2.2.2.2.2))]) 0 0 := by
  refine Met.ofW (cc := cX6_writeText) (maxL := 5) (ret := (some .int)) (by decide) rfl ?_
  intro p e s m args below meth c s₁ B hml hv
  obtain ⟨rfl, hsz, hP, hK, hD0, hG⟩ := hv
  have hx := B.exec
  have hb := B.bytes
  have hr := B.returns
  have hts := atoms_spec (ws := wsX6_writeText) B.pre
  have hown : s.vm.findClass RX6 = some m.cls := findClass_of_methodNamed B.named
  have hlocks := B.notSynchronized
  subst hsz
  have hD := hD0.self (sz := s.heap.size)
  generalize hAe : va_A [(m0, .inr (3, [.ref mb, .ref ml, .ref mm, .int (nI many), .int th, .ref mk])), (mb, .inl (T 0, 1920, .inl fb)), (ml, .inl (T 0, 6, .inl fl)), (mm, .inl (T 0, 600, .inl fm)), (mk, .inl (T 0, 320, .inl fk))] s.heap.size = A at hD hG ⊢
  have hA : ∀ q : Nat, s.heap.size ≤ q → A q := fun q h => by rw [← hAe]; exact Or.inr h
  have hS : va_S A s.heap s.heap [] := va_S.rf
  have hP : va_P D cls [(m0, .inr (3, [.ref mb, .ref ml, .ref mm, .int (nI many), .int th, .ref mk])), (mb, .inl (T 0, 1920, .inl fb)), (ml, .inl (T 0, 6, .inl fl)), (mm, .inl (T 0, 600, .inl fm)), (mk, .inl (T 0, 320, .inl fk))] s.heap := hP
  have hl := lv_entry ([.ref m0, .int (nI i), .int j, .int x0, .int x1]) (n := 5) (Nat.le_of_ble_eq_true rfl)
  rw [lg_entry_eq]
  generalize (lg_sl ([.ref m0, .int (nI i), .int j, .int x0, .int x1]) ++ List.replicate (5 - (lg_sl ([.ref m0, .int (nI i), .int j, .int x0, .int x1])).length) Slot.unset).toArray = ls at hl ⊢
  have hl : lv_has ls 5 [(0, .ref m0), (1, .int (nI i)), (2, .int j), (3, .int x0), (4, .int x1)] := hl
  refine lv_aload_n hx hb dX6_writeText_0 rfl (lv_at hl 0 rfl) ?_
  refine lv_iload_n hx hb dX6_writeText_1 rfl (lv_at hl 1 rfl) ?_
  refine lv_iload_n hx hb dX6_writeText_2 rfl (lv_at hl 2 rfl) ?_
  refine lv_iload_n hx hb dX6_writeText_3 rfl (lv_at hl 3 rfl) ?_
  refine lv_iload hx hb dX6_writeText_4 (lv_at hl 4 rfl) ?_
  refine mu_V (As := [.int (nI i), .int j, .int x0, .int x1]) (rest := []) (wc := [(m0, .inr (3, [.ref mb, .ref ml, .ref mm, .int (nI many), .int th, .ref mk])), (mb, .inl (T 0, 1920, .inl fb)), (ml, .inl (T 0, 6, .inl fl)), (mm, .inl (T 0, 600, .inl fm)), (mk, .inl (T 0, 320, .inl fk))]) (wr := []) ⟨hx, hb, hml, hown, hts⟩ (m_write_2 l D T g s.heap.size m0 mb ml mm mk many th fb fl fm fk N Bw (hMR) i hi j hj x0 x1) (cwV 4 hts gX6_writeText_X6_write rfl rfl rfl (by decide +kernel) ⟨Nat.le_of_ble_eq_true rfl, Nat.le_of_ble_eq_true rfl⟩) (va_recv hK hP (ci := 3) (q0 := 0) rfl rfl) hP hD hK hG hS hA [0, 1, 2, 3, 4] [] rfl (by decide) rfl (by decide) (by decide) ⟨Nat.le_of_ble_eq_true rfl, Nat.le_of_ble_eq_true rfl⟩ rfl hl.1 (Nat.le_of_ble_eq_true rfl) dX6_writeText_6 rfl (fun u H locs hq7 hP hD hS => ?_)
  obtain ⟨many2_1, th2_2, fb2_3, fl2_4, fm2_5, fk2_6⟩ := u
  have hP : va_P D cls [(m0, .inr (3, [.ref mb, .ref ml, .ref mm, .int (nI many2_1), .int th2_2, .ref mk])), (mb, .inl (T 0, 1920, .inl fb2_3)), (ml, .inl (T 0, 6, .inl fl2_4)), (mm, .inl (T 0, 600, .inl fm2_5)), (mk, .inl (T 0, 320, .inl fk2_6))] H := hP
  have hD : va_D A [(m0, .inr (3, [.ref mb, .ref ml, .ref mm, .int (nI many2_1), .int th2_2, .ref mk])), (mb, .inl (T 0, 1920, .inl fb2_3)), (ml, .inl (T 0, 6, .inl fl2_4)), (mm, .inl (T 0, 600, .inl fm2_5)), (mk, .inl (T 0, 320, .inl fk2_6))] := hD
  have hp1 : th2_2 = nI 1 ∧ MR fl2_4 fb2_3 (N) (Bw) := hq7
  refine W.eq (g2 := F0 m 9 ls [.int (nI 0)]) rfl ?_
  have hP9 := hP.sub (ws' := [(m0, .inr (3, [.ref mb, .ref ml, .ref mm, .int (nI many2_1), .int th2_2, .ref mk])), (mb, .inl (T 0, 1920, .inl fb2_3)), (ml, .inl (T 0, 6, .inl fl2_4)), (mm, .inl (T 0, 600, .inl fm2_5)), (mk, .inl (T 0, 320, .inl fk2_6))]) [0, 1, 2, 3, 4] rfl
  have hD9 := hD.sub (ws' := [(m0, .inr (3, [.ref mb, .ref ml, .ref mm, .int (nI many2_1), .int th2_2, .ref mk])), (mb, .inl (T 0, 1920, .inl fb2_3)), (ml, .inl (T 0, 6, .inl fl2_4)), (mm, .inl (T 0, 600, .inl fm2_5)), (mk, .inl (T 0, 320, .inl fk2_6))]) [0, 1, 2, 3, 4] (by decide) rfl
  exact W.iret (v := (nI 0)) hx hb hr (fun t ht hW => ⟨⟨(many2_1, th2_2, fb2_3, fl2_4, fm2_5, fk2_6), rfl, show th2_2 = nI 1 ∧ MR fl2_4 fb2_3 (N) (Bw) from hp1, (by rw [ht]; exact hP9), va_K.moved hW.alike hK, hD9⟩, hS.F ht⟩) hS.2.2 dX6_writeText_9
set_option maxHeartbeats 4000000 in
set_option maxRecDepth 100000 in
theorem m_writeText_3 (l : Launch) (D : va_G) (T : Nat → ClassId) (g : Nat → Nat) (sz : Nat) (m0 : Nat) (mb : Nat) (ml : Nat) (mm : Nat) (mk : Nat) (many : Nat) (th : Int32) (fb : Nat → Int32) (fl : Nat → Int32) (fm : Nat → Int32) (fk : Nat → Int32) (N : Nat → Nat) (Bw : Nat → Nat → Nat) (hMR : MR fl fb N Bw) (i : Nat) (hi : i < 6) (j : Nat) (hj : j < 6) (k : Int32) (hk : k < 0 ∨ nI 2 < k) (x0 : Int32) : MU l yX6_writeText wsX6_writeText ({ frames := 62, cells := 0, slots := 0, locals := 3100 } : Room) D T g [.ref m0, .int (nI i), .int (nI j), .int k, .int x0] [(m0, .inr (3, [.ref mb, .ref ml, .ref mm, .int (nI many), .int th, .ref mk])), (mb, .inl (T 0, 1920, .inl fb)), (ml, .inl (T 0, 6, .inl fl)), (mm, .inl (T 0, 600, .inl fm)), (mk, .inl (T 0, 320, .inl fk))] sz (fun u : Nat × Int32 × (Nat → Int32) × (Nat → Int32) × (Nat → Int32) × (Nat → Int32) => some (.int (nI 0))) (fun u : Nat × Int32 × (Nat → Int32) × (Nat → Int32) × (Nat → Int32) × (Nat → Int32) => u.2.1 = nI 2 ∧ MR u.2.2.2.1 u.2.2.1 (N) (Bw)) (fun u : Nat × Int32 × (Nat → Int32) × (Nat → Int32) × (Nat → Int32) × (Nat → Int32) => [(m0, .inr (3, [.ref mb, .ref ml, .ref mm, .int (nI u.1), .int u.2.1, .ref mk])), (mb, .inl (T 0, 1920, .inl u.2.2.1)), (ml, .inl (T 0, 6, .inl u.2.2.2.1)), (mm, .inl (T 0, 600, .inl u.2.2.2.2.1)), (mk, .inl (T 0, 320, .inl u.2.2.2.2.2))]) 0 0 := by
  refine Met.ofW (cc := cX6_writeText) (maxL := 5) (ret := (some .int)) (by decide) rfl ?_
  intro p e s m args below meth c s₁ B hml hv
  obtain ⟨rfl, hsz, hP, hK, hD0, hG⟩ := hv
  have hx := B.exec
  have hb := B.bytes
  have hr := B.returns
  have hts := atoms_spec (ws := wsX6_writeText) B.pre
  have hown : s.vm.findClass RX6 = some m.cls := findClass_of_methodNamed B.named
  have hlocks := B.notSynchronized
  subst hsz
  have hD := hD0.self (sz := s.heap.size)
  generalize hAe : va_A [(m0, .inr (3, [.ref mb, .ref ml, .ref mm, .int (nI many), .int th, .ref mk])), (mb, .inl (T 0, 1920, .inl fb)), (ml, .inl (T 0, 6, .inl fl)), (mm, .inl (T 0, 600, .inl fm)), (mk, .inl (T 0, 320, .inl fk))] s.heap.size = A at hD hG ⊢
  have hA : ∀ q : Nat, s.heap.size ≤ q → A q := fun q h => by rw [← hAe]; exact Or.inr h
  have hS : va_S A s.heap s.heap [] := va_S.rf
  have hP : va_P D cls [(m0, .inr (3, [.ref mb, .ref ml, .ref mm, .int (nI many), .int th, .ref mk])), (mb, .inl (T 0, 1920, .inl fb)), (ml, .inl (T 0, 6, .inl fl)), (mm, .inl (T 0, 600, .inl fm)), (mk, .inl (T 0, 320, .inl fk))] s.heap := hP
  have hl := lv_entry ([.ref m0, .int (nI i), .int (nI j), .int k, .int x0]) (n := 5) (Nat.le_of_ble_eq_true rfl)
  rw [lg_entry_eq]
  generalize (lg_sl ([.ref m0, .int (nI i), .int (nI j), .int k, .int x0]) ++ List.replicate (5 - (lg_sl ([.ref m0, .int (nI i), .int (nI j), .int k, .int x0])).length) Slot.unset).toArray = ls at hl ⊢
  have hl : lv_has ls 5 [(0, .ref m0), (1, .int (nI i)), (2, .int (nI j)), (3, .int k), (4, .int x0)] := hl
  refine lv_aload_n hx hb dX6_writeText_0 rfl (lv_at hl 0 rfl) ?_
  refine lv_iload_n hx hb dX6_writeText_1 rfl (lv_at hl 1 rfl) ?_
  refine lv_iload_n hx hb dX6_writeText_2 rfl (lv_at hl 2 rfl) ?_
  refine lv_iload_n hx hb dX6_writeText_3 rfl (lv_at hl 3 rfl) ?_
  refine lv_iload hx hb dX6_writeText_4 (lv_at hl 4 rfl) ?_
  refine mu_V (As := [.int (nI i), .int (nI j), .int k, .int x0]) (rest := []) (wc := [(m0, .inr (3, [.ref mb, .ref ml, .ref mm, .int (nI many), .int th, .ref mk])), (mb, .inl (T 0, 1920, .inl fb)), (ml, .inl (T 0, 6, .inl fl)), (mm, .inl (T 0, 600, .inl fm)), (mk, .inl (T 0, 320, .inl fk))]) (wr := []) ⟨hx, hb, hml, hown, hts⟩ (m_write_3 l D T g s.heap.size m0 mb ml mm mk many th fb fl fm fk N Bw (hMR) i hi j hj k hk x0) (cwV 4 hts gX6_writeText_X6_write rfl rfl rfl (by decide +kernel) ⟨Nat.le_of_ble_eq_true rfl, Nat.le_of_ble_eq_true rfl⟩) (va_recv hK hP (ci := 3) (q0 := 0) rfl rfl) hP hD hK hG hS hA [0, 1, 2, 3, 4] [] rfl (by decide) rfl (by decide) (by decide) ⟨Nat.le_of_ble_eq_true rfl, Nat.le_of_ble_eq_true rfl⟩ rfl hl.1 (Nat.le_of_ble_eq_true rfl) dX6_writeText_6 rfl (fun u H locs hq7 hP hD hS => ?_)
  obtain ⟨many2_1, th2_2, fb2_3, fl2_4, fm2_5, fk2_6⟩ := u
  have hP : va_P D cls [(m0, .inr (3, [.ref mb, .ref ml, .ref mm, .int (nI many2_1), .int th2_2, .ref mk])), (mb, .inl (T 0, 1920, .inl fb2_3)), (ml, .inl (T 0, 6, .inl fl2_4)), (mm, .inl (T 0, 600, .inl fm2_5)), (mk, .inl (T 0, 320, .inl fk2_6))] H := hP
  have hD : va_D A [(m0, .inr (3, [.ref mb, .ref ml, .ref mm, .int (nI many2_1), .int th2_2, .ref mk])), (mb, .inl (T 0, 1920, .inl fb2_3)), (ml, .inl (T 0, 6, .inl fl2_4)), (mm, .inl (T 0, 600, .inl fm2_5)), (mk, .inl (T 0, 320, .inl fk2_6))] := hD
  have hp1 : th2_2 = nI 2 ∧ MR fl2_4 fb2_3 (N) (Bw) := hq7
  refine W.eq (g2 := F0 m 9 ls [.int (nI 0)]) rfl ?_
  have hP9 := hP.sub (ws' := [(m0, .inr (3, [.ref mb, .ref ml, .ref mm, .int (nI many2_1), .int th2_2, .ref mk])), (mb, .inl (T 0, 1920, .inl fb2_3)), (ml, .inl (T 0, 6, .inl fl2_4)), (mm, .inl (T 0, 600, .inl fm2_5)), (mk, .inl (T 0, 320, .inl fk2_6))]) [0, 1, 2, 3, 4] rfl
  have hD9 := hD.sub (ws' := [(m0, .inr (3, [.ref mb, .ref ml, .ref mm, .int (nI many2_1), .int th2_2, .ref mk])), (mb, .inl (T 0, 1920, .inl fb2_3)), (ml, .inl (T 0, 6, .inl fl2_4)), (mm, .inl (T 0, 600, .inl fm2_5)), (mk, .inl (T 0, 320, .inl fk2_6))]) [0, 1, 2, 3, 4] (by decide) rfl
  exact W.iret (v := (nI 0)) hx hb hr (fun t ht hW => ⟨⟨(many2_1, th2_2, fb2_3, fl2_4, fm2_5, fk2_6), rfl, show th2_2 = nI 2 ∧ MR fl2_4 fb2_3 (N) (Bw) from hp1, (by rw [ht]; exact hP9), va_K.moved hW.alike hK, hD9⟩, hS.F ht⟩) hS.2.2 dX6_writeText_9
set_option maxHeartbeats 4000000 in
set_option maxRecDepth 100000 in
theorem m_writeText_4 (l : Launch) (D : va_G) (T : Nat → ClassId) (g : Nat → Nat) (sz : Nat) (m0 : Nat) (mb : Nat) (ml : Nat) (mm : Nat) (mk : Nat) (many : Nat) (th : Int32) (fb : Nat → Int32) (fl : Nat → Int32) (fm : Nat → Int32) (fk : Nat → Int32) (N : Nat → Nat) (Bw : Nat → Nat → Nat) (hMR : MR fl fb N Bw) (i : Nat) (hi : i < 6) (j : Nat) (hj : j < 6) (k : Nat) (hk : k < 3) (fl9 : Nat) (hfl : fl9 < 2) (hm : 320 < lnN k (N i) fl9) : MU l yX6_writeText wsX6_writeText ({ frames := 62, cells := 0, slots := 0, locals := 3100 } : Room) D T g [.ref m0, .int (nI i), .int (nI j), .int (nI k), .int (nI fl9)] [(m0, .inr (3, [.ref mb, .ref ml, .ref mm, .int (nI many), .int th, .ref mk])), (mb, .inl (T 0, 1920, .inl fb)), (ml, .inl (T 0, 6, .inl fl)), (mm, .inl (T 0, 600, .inl fm)), (mk, .inl (T 0, 320, .inl fk))] sz (fun u : Nat × Int32 × (Nat → Int32) × (Nat → Int32) × (Nat → Int32) × (Nat → Int32) => some (.int (nI 0))) (fun u : Nat × Int32 × (Nat → Int32) × (Nat → Int32) × (Nat → Int32) × (Nat → Int32) => u.2.1 = nI 3 ∧ MR u.2.2.2.1 u.2.2.1 (N) (Bw)) (fun u : Nat × Int32 × (Nat → Int32) × (Nat → Int32) × (Nat → Int32) × (Nat → Int32) => [(m0, .inr (3, [.ref mb, .ref ml, .ref mm, .int (nI u.1), .int u.2.1, .ref mk])), (mb, .inl (T 0, 1920, .inl u.2.2.1)), (ml, .inl (T 0, 6, .inl u.2.2.2.1)), (mm, .inl (T 0, 600, .inl u.2.2.2.2.1)), (mk, .inl (T 0, 320, .inl u.2.2.2.2.2))]) 0 0 := by
  refine Met.ofW (cc := cX6_writeText) (maxL := 5) (ret := (some .int)) (by decide) rfl ?_
  intro p e s m args below meth c s₁ B hml hv
  obtain ⟨rfl, hsz, hP, hK, hD0, hG⟩ := hv
  have hx := B.exec
  have hb := B.bytes
  have hr := B.returns
  have hts := atoms_spec (ws := wsX6_writeText) B.pre
  have hown : s.vm.findClass RX6 = some m.cls := findClass_of_methodNamed B.named
  have hlocks := B.notSynchronized
  subst hsz
  have hD := hD0.self (sz := s.heap.size)
  generalize hAe : va_A [(m0, .inr (3, [.ref mb, .ref ml, .ref mm, .int (nI many), .int th, .ref mk])), (mb, .inl (T 0, 1920, .inl fb)), (ml, .inl (T 0, 6, .inl fl)), (mm, .inl (T 0, 600, .inl fm)), (mk, .inl (T 0, 320, .inl fk))] s.heap.size = A at hD hG ⊢
  have hA : ∀ q : Nat, s.heap.size ≤ q → A q := fun q h => by rw [← hAe]; exact Or.inr h
  have hS : va_S A s.heap s.heap [] := va_S.rf
  have hP : va_P D cls [(m0, .inr (3, [.ref mb, .ref ml, .ref mm, .int (nI many), .int th, .ref mk])), (mb, .inl (T 0, 1920, .inl fb)), (ml, .inl (T 0, 6, .inl fl)), (mm, .inl (T 0, 600, .inl fm)), (mk, .inl (T 0, 320, .inl fk))] s.heap := hP
  have hl := lv_entry ([.ref m0, .int (nI i), .int (nI j), .int (nI k), .int (nI fl9)]) (n := 5) (Nat.le_of_ble_eq_true rfl)
  rw [lg_entry_eq]
  generalize (lg_sl ([.ref m0, .int (nI i), .int (nI j), .int (nI k), .int (nI fl9)]) ++ List.replicate (5 - (lg_sl ([.ref m0, .int (nI i), .int (nI j), .int (nI k), .int (nI fl9)])).length) Slot.unset).toArray = ls at hl ⊢
  have hl : lv_has ls 5 [(0, .ref m0), (1, .int (nI i)), (2, .int (nI j)), (3, .int (nI k)), (4, .int (nI fl9))] := hl
  refine lv_aload_n hx hb dX6_writeText_0 rfl (lv_at hl 0 rfl) ?_
  refine lv_iload_n hx hb dX6_writeText_1 rfl (lv_at hl 1 rfl) ?_
  refine lv_iload_n hx hb dX6_writeText_2 rfl (lv_at hl 2 rfl) ?_
  refine lv_iload_n hx hb dX6_writeText_3 rfl (lv_at hl 3 rfl) ?_
  refine lv_iload hx hb dX6_writeText_4 (lv_at hl 4 rfl) ?_
  refine mu_V (As := [.int (nI i), .int (nI j), .int (nI k), .int (nI fl9)]) (rest := []) (wc := [(m0, .inr (3, [.ref mb, .ref ml, .ref mm, .int (nI many), .int th, .ref mk])), (mb, .inl (T 0, 1920, .inl fb)), (ml, .inl (T 0, 6, .inl fl)), (mm, .inl (T 0, 600, .inl fm)), (mk, .inl (T 0, 320, .inl fk))]) (wr := []) ⟨hx, hb, hml, hown, hts⟩ (m_write_4 l D T g s.heap.size m0 mb ml mm mk many th fb fl fm fk N Bw (hMR) i hi j hj k hk fl9 hfl hm) (cwV 4 hts gX6_writeText_X6_write rfl rfl rfl (by decide +kernel) ⟨Nat.le_of_ble_eq_true rfl, Nat.le_of_ble_eq_true rfl⟩) (va_recv hK hP (ci := 3) (q0 := 0) rfl rfl) hP hD hK hG hS hA [0, 1, 2, 3, 4] [] rfl (by decide) rfl (by decide) (by decide) ⟨Nat.le_of_ble_eq_true rfl, Nat.le_of_ble_eq_true rfl⟩ rfl hl.1 (Nat.le_of_ble_eq_true rfl) dX6_writeText_6 rfl (fun u H locs hq7 hP hD hS => ?_)
  obtain ⟨many2_1, th2_2, fb2_3, fl2_4, fm2_5, fk2_6⟩ := u
  have hP : va_P D cls [(m0, .inr (3, [.ref mb, .ref ml, .ref mm, .int (nI many2_1), .int th2_2, .ref mk])), (mb, .inl (T 0, 1920, .inl fb2_3)), (ml, .inl (T 0, 6, .inl fl2_4)), (mm, .inl (T 0, 600, .inl fm2_5)), (mk, .inl (T 0, 320, .inl fk2_6))] H := hP
  have hD : va_D A [(m0, .inr (3, [.ref mb, .ref ml, .ref mm, .int (nI many2_1), .int th2_2, .ref mk])), (mb, .inl (T 0, 1920, .inl fb2_3)), (ml, .inl (T 0, 6, .inl fl2_4)), (mm, .inl (T 0, 600, .inl fm2_5)), (mk, .inl (T 0, 320, .inl fk2_6))] := hD
  have hp1 : th2_2 = nI 3 ∧ MR fl2_4 fb2_3 (N) (Bw) := hq7
  refine W.eq (g2 := F0 m 9 ls [.int (nI 0)]) rfl ?_
  have hP9 := hP.sub (ws' := [(m0, .inr (3, [.ref mb, .ref ml, .ref mm, .int (nI many2_1), .int th2_2, .ref mk])), (mb, .inl (T 0, 1920, .inl fb2_3)), (ml, .inl (T 0, 6, .inl fl2_4)), (mm, .inl (T 0, 600, .inl fm2_5)), (mk, .inl (T 0, 320, .inl fk2_6))]) [0, 1, 2, 3, 4] rfl
  have hD9 := hD.sub (ws' := [(m0, .inr (3, [.ref mb, .ref ml, .ref mm, .int (nI many2_1), .int th2_2, .ref mk])), (mb, .inl (T 0, 1920, .inl fb2_3)), (ml, .inl (T 0, 6, .inl fl2_4)), (mm, .inl (T 0, 600, .inl fm2_5)), (mk, .inl (T 0, 320, .inl fk2_6))]) [0, 1, 2, 3, 4] (by decide) rfl
  exact W.iret (v := (nI 0)) hx hb hr (fun t ht hW => ⟨⟨(many2_1, th2_2, fb2_3, fl2_4, fm2_5, fk2_6), rfl, show th2_2 = nI 3 ∧ MR fl2_4 fb2_3 (N) (Bw) from hp1, (by rw [ht]; exact hP9), va_K.moved hW.alike hK, hD9⟩, hS.F ht⟩) hS.2.2 dX6_writeText_9
set_option maxHeartbeats 4000000 in
set_option maxRecDepth 100000 in
theorem m_writeText (l : Launch) (D : va_G) (T : Nat → ClassId) (g : Nat → Nat) (sz : Nat) (m0 : Nat) (mb : Nat) (ml : Nat) (mm : Nat) (mk : Nat) (many : Nat) (th : Int32) (fb : Nat → Int32) (fl : Nat → Int32) (fm : Nat → Int32) (fk : Nat → Int32) (N : Nat → Nat) (Bw : Nat → Nat → Nat) (hMR : MR fl fb N Bw) (i : Nat) (hi : i < 6) (j : Nat) (hj : j < 6) (k : Nat) (hk : k < 3) (fl9 : Nat) (hfl : fl9 < 2) (hm : lnN k (N i) fl9 ≤ 320) : MU l yX6_writeText wsX6_writeText ({ frames := 62, cells := 0, slots := 0, locals := 3100 } : Room) D T g [.ref m0, .int (nI i), .int (nI j), .int (nI k), .int (nI fl9)] [(m0, .inr (3, [.ref mb, .ref ml, .ref mm, .int (nI many), .int th, .ref mk])), (mb, .inl (T 0, 1920, .inl fb)), (ml, .inl (T 0, 6, .inl fl)), (mm, .inl (T 0, 600, .inl fm)), (mk, .inl (T 0, 320, .inl fk))] sz (fun u : Nat × Int32 × (Nat → Int32) × (Nat → Int32) × (Nat → Int32) × (Nat → Int32) => some (.int (nI (lnN k (N i) fl9)))) (fun u : Nat × Int32 × (Nat → Int32) × (Nat → Int32) × (Nat → Int32) × (Nat → Int32) => u.2.1 = nI 0 ∧ MR u.2.2.2.1 u.2.2.1 (upA N j (lnN k (N i) fl9)) (upA Bw j (wrA k (N i) (Bw i)))) (fun u : Nat × Int32 × (Nat → Int32) × (Nat → Int32) × (Nat → Int32) × (Nat → Int32) => [(m0, .inr (3, [.ref mb, .ref ml, .ref mm, .int (nI u.1), .int u.2.1, .ref mk])), (mb, .inl (T 0, 1920, .inl u.2.2.1)), (ml, .inl (T 0, 6, .inl u.2.2.2.1)), (mm, .inl (T 0, 600, .inl u.2.2.2.2.1)), (mk, .inl (T 0, 320, .inl u.2.2.2.2.2))]) 0 0 := by
  refine Met.ofW (cc := cX6_writeText) (maxL := 5) (ret := (some .int)) (by decide) rfl ?_
  intro p e s m args below meth c s₁ B hml hv
  obtain ⟨rfl, hsz, hP, hK, hD0, hG⟩ := hv
  have hx := B.exec
  have hb := B.bytes
  have hr := B.returns
  have hts := atoms_spec (ws := wsX6_writeText) B.pre
  have hown : s.vm.findClass RX6 = some m.cls := findClass_of_methodNamed B.named
  have hlocks := B.notSynchronized
  subst hsz
  have hD := hD0.self (sz := s.heap.size)
  generalize hAe : va_A [(m0, .inr (3, [.ref mb, .ref ml, .ref mm, .int (nI many), .int th, .ref mk])), (mb, .inl (T 0, 1920, .inl fb)), (ml, .inl (T 0, 6, .inl fl)), (mm, .inl (T 0, 600, .inl fm)), (mk, .inl (T 0, 320, .inl fk))] s.heap.size = A at hD hG ⊢
  have hA : ∀ q : Nat, s.heap.size ≤ q → A q := fun q h => by rw [← hAe]; exact Or.inr h
  have hS : va_S A s.heap s.heap [] := va_S.rf
  have hP : va_P D cls [(m0, .inr (3, [.ref mb, .ref ml, .ref mm, .int (nI many), .int th, .ref mk])), (mb, .inl (T 0, 1920, .inl fb)), (ml, .inl (T 0, 6, .inl fl)), (mm, .inl (T 0, 600, .inl fm)), (mk, .inl (T 0, 320, .inl fk))] s.heap := hP
  have hl := lv_entry ([.ref m0, .int (nI i), .int (nI j), .int (nI k), .int (nI fl9)]) (n := 5) (Nat.le_of_ble_eq_true rfl)
  rw [lg_entry_eq]
  generalize (lg_sl ([.ref m0, .int (nI i), .int (nI j), .int (nI k), .int (nI fl9)]) ++ List.replicate (5 - (lg_sl ([.ref m0, .int (nI i), .int (nI j), .int (nI k), .int (nI fl9)])).length) Slot.unset).toArray = ls at hl ⊢
  have hl : lv_has ls 5 [(0, .ref m0), (1, .int (nI i)), (2, .int (nI j)), (3, .int (nI k)), (4, .int (nI fl9))] := hl
  refine lv_aload_n hx hb dX6_writeText_0 rfl (lv_at hl 0 rfl) ?_
  refine lv_iload_n hx hb dX6_writeText_1 rfl (lv_at hl 1 rfl) ?_
  refine lv_iload_n hx hb dX6_writeText_2 rfl (lv_at hl 2 rfl) ?_
  refine lv_iload_n hx hb dX6_writeText_3 rfl (lv_at hl 3 rfl) ?_
  refine lv_iload hx hb dX6_writeText_4 (lv_at hl 4 rfl) ?_
  refine mu_V (As := [.int (nI i), .int (nI j), .int (nI k), .int (nI fl9)]) (rest := []) (wc := [(m0, .inr (3, [.ref mb, .ref ml, .ref mm, .int (nI many), .int th, .ref mk])), (mb, .inl (T 0, 1920, .inl fb)), (ml, .inl (T 0, 6, .inl fl)), (mm, .inl (T 0, 600, .inl fm)), (mk, .inl (T 0, 320, .inl fk))]) (wr := []) ⟨hx, hb, hml, hown, hts⟩ (m_write l D T g s.heap.size m0 mb ml mm mk many th fb fl fm fk N Bw (hMR) i hi j hj k hk fl9 hfl hm) (cwV 4 hts gX6_writeText_X6_write rfl rfl rfl (by decide +kernel) ⟨Nat.le_of_ble_eq_true rfl, Nat.le_of_ble_eq_true rfl⟩) (va_recv hK hP (ci := 3) (q0 := 0) rfl rfl) hP hD hK hG hS hA [0, 1, 2, 3, 4] [] rfl (by decide) rfl (by decide) (by decide) ⟨Nat.le_of_ble_eq_true rfl, Nat.le_of_ble_eq_true rfl⟩ rfl hl.1 (Nat.le_of_ble_eq_true rfl) dX6_writeText_6 rfl (fun u H locs hq7 hP hD hS => ?_)
  obtain ⟨many2_1, th2_2, fb2_3, fl2_4, fm2_5, fk2_6⟩ := u
  have hP : va_P D cls [(m0, .inr (3, [.ref mb, .ref ml, .ref mm, .int (nI many2_1), .int th2_2, .ref mk])), (mb, .inl (T 0, 1920, .inl fb2_3)), (ml, .inl (T 0, 6, .inl fl2_4)), (mm, .inl (T 0, 600, .inl fm2_5)), (mk, .inl (T 0, 320, .inl fk2_6))] H := hP
  have hD : va_D A [(m0, .inr (3, [.ref mb, .ref ml, .ref mm, .int (nI many2_1), .int th2_2, .ref mk])), (mb, .inl (T 0, 1920, .inl fb2_3)), (ml, .inl (T 0, 6, .inl fl2_4)), (mm, .inl (T 0, 600, .inl fm2_5)), (mk, .inl (T 0, 320, .inl fk2_6))] := hD
  have hp1 : th2_2 = nI 0 ∧ MR fl2_4 fb2_3 (upA N j (lnN k (N i) fl9)) (upA Bw j (wrA k (N i) (Bw i))) := hq7
  refine W.eq (g2 := F0 m 9 ls [.int (nI (lnN k (N i) fl9))]) rfl ?_
  have hP9 := hP.sub (ws' := [(m0, .inr (3, [.ref mb, .ref ml, .ref mm, .int (nI many2_1), .int th2_2, .ref mk])), (mb, .inl (T 0, 1920, .inl fb2_3)), (ml, .inl (T 0, 6, .inl fl2_4)), (mm, .inl (T 0, 600, .inl fm2_5)), (mk, .inl (T 0, 320, .inl fk2_6))]) [0, 1, 2, 3, 4] rfl
  have hD9 := hD.sub (ws' := [(m0, .inr (3, [.ref mb, .ref ml, .ref mm, .int (nI many2_1), .int th2_2, .ref mk])), (mb, .inl (T 0, 1920, .inl fb2_3)), (ml, .inl (T 0, 6, .inl fl2_4)), (mm, .inl (T 0, 600, .inl fm2_5)), (mk, .inl (T 0, 320, .inl fk2_6))]) [0, 1, 2, 3, 4] (by decide) rfl
  exact W.iret (v := (nI (lnN k (N i) fl9))) hx hb hr (fun t ht hW => ⟨⟨(many2_1, th2_2, fb2_3, fl2_4, fm2_5, fk2_6), rfl, show th2_2 = nI 0 ∧ MR fl2_4 fb2_3 (upA N j (lnN k (N i) fl9)) (upA Bw j (wrA k (N i) (Bw i))) from hp1, (by rw [ht]; exact hP9), va_K.moved hW.alike hK, hD9⟩, hS.F ht⟩) hS.2.2 dX6_writeText_9
set_option maxHeartbeats 4000000 in
set_option maxRecDepth 100000 in
theorem m_read_1 (l : Launch) (D : va_G) (T : Nat → ClassId) (g : Nat → Nat) (sz : Nat) (m0 : Nat) (mb : Nat) (ml : Nat) (mm : Nat) (mk : Nat) (many : Nat) (th : Int32) (fb : Nat → Int32) (fl : Nat → Int32) (fm : Nat → Int32) (fk : Nat → Int32) (N : Nat → Nat) (Bw : Nat → Nat → Nat) (hMR : MR fl fb N Bw) (i : Int32) (hi : i < 0 ∨ nI 5 < i) (x0 : Int32) (x1 : Int32) : MU l yX6_read wsX6_read ({ frames := 60, cells := 0, slots := 0, locals := 3000 } : Room) D T g [.ref m0, .int i, .int x0, .int x1] [(m0, .inr (3, [.ref mb, .ref ml, .ref mm, .int (nI many), .int th, .ref mk])), (mb, .inl (T 0, 1920, .inl fb)), (ml, .inl (T 0, 6, .inl fl)), (mm, .inl (T 0, 600, .inl fm)), (mk, .inl (T 0, 320, .inl fk))] sz (fun u : Nat × Int32 × (Nat → Int32) × (Nat → Int32) × (Nat → Int32) × (Nat → Int32) => some (.int (nI 0))) (fun u : Nat × Int32 × (Nat → Int32) × (Nat → Int32) × (Nat → Int32) × (Nat → Int32) => u.2.1 = nI 1 ∧ MR u.2.2.2.1 u.2.2.1 (N) (Bw)) (fun u : Nat × Int32 × (Nat → Int32) × (Nat → Int32) × (Nat → Int32) × (Nat → Int32) => [(m0, .inr (3, [.ref mb, .ref ml, .ref mm, .int (nI u.1), .int u.2.1, .ref mk])), (mb, .inl (T 0, 1920, .inl u.2.2.1)), (ml, .inl (T 0, 6, .inl u.2.2.2.1)), (mm, .inl (T 0, 600, .inl u.2.2.2.2.1)), (mk, .inl (T 0, 320, .inl u.2.2.2.2.2))]) 0 0 := by
  refine Met.ofW (cc := cX6_read) (maxL := 5) (ret := (some .int)) (by decide) rfl ?_
  intro p e s m args below meth c s₁ B hml hv
  obtain ⟨rfl, hsz, hP, hK, hD0, hG⟩ := hv
  have hx := B.exec
  have hb := B.bytes
  have hr := B.returns
  have hts := atoms_spec (ws := wsX6_read) B.pre
  have hown : s.vm.findClass RX6 = some m.cls := findClass_of_methodNamed B.named
  have hlocks := B.notSynchronized
  subst hsz
  have hD := hD0.self (sz := s.heap.size)
  generalize hAe : va_A [(m0, .inr (3, [.ref mb, .ref ml, .ref mm, .int (nI many), .int th, .ref mk])), (mb, .inl (T 0, 1920, .inl fb)), (ml, .inl (T 0, 6, .inl fl)), (mm, .inl (T 0, 600, .inl fm)), (mk, .inl (T 0, 320, .inl fk))] s.heap.size = A at hD hG ⊢
  have hA : ∀ q : Nat, s.heap.size ≤ q → A q := fun q h => by rw [← hAe]; exact Or.inr h
  have hS : va_S A s.heap s.heap [] := va_S.rf
  have hP : va_P D cls [(m0, .inr (3, [.ref mb, .ref ml, .ref mm, .int (nI many), .int th, .ref mk])), (mb, .inl (T 0, 1920, .inl fb)), (ml, .inl (T 0, 6, .inl fl)), (mm, .inl (T 0, 600, .inl fm)), (mk, .inl (T 0, 320, .inl fk))] s.heap := hP
  have hl := lv_entry ([.ref m0, .int i, .int x0, .int x1]) (n := 5) (Nat.le_of_ble_eq_true rfl)
  rw [lg_entry_eq]
  generalize (lg_sl ([.ref m0, .int i, .int x0, .int x1]) ++ List.replicate (5 - (lg_sl ([.ref m0, .int i, .int x0, .int x1])).length) Slot.unset).toArray = ls at hl ⊢
  have hl : lv_has ls 5 [(0, .ref m0), (1, .int i), (2, .int x0), (3, .int x1)] := hl
  refine lv_aload_n hx hb dX6_read_0 rfl (lv_at hl 0 rfl) ?_
  refine lv_aload_n hx hb dX6_read_1 rfl (lv_at hl 0 rfl) ?_
  refine lv_iload_n hx hb dX6_read_2 rfl (lv_at hl 1 rfl) ?_
  refine ro_V (As := [.int i]) (rest := [.ref m0]) (wc := []) (r := .int (nI 0)) ⟨hx, hb, hml, hown, hts⟩ (c_X6_isRow_n l D T g m0 i hi) (cwV 1 hts gX6_read_X6_isRow rfl rfl rfl (by decide +kernel) ⟨Nat.le_of_ble_eq_true rfl, Nat.le_of_ble_eq_true rfl⟩) (va_recv hK hP (ci := 3) (q0 := 0) rfl rfl) hP hK hG hS [] rfl ⟨Nat.zero_le _, Nat.zero_le _⟩ rfl hl.1 (Nat.le_of_ble_eq_true rfl) dX6_read_3 rfl ?_
  refine ln_if_eq_t (tgt := 17) hx hb (by omega) (by decide) dX6_read_6 (by decide) ?_
  refine lv_iconst (v := (nI 1)) hx hb dX6_read_17 (by decide +kernel) ?_
  refine lv_goto (tgt := 34) hx hb dX6_read_18 (by decide) ?_
  refine mu_V (As := [.int (nI 1)]) (rest := []) (wc := [(m0, .inr (3, [.ref mb, .ref ml, .ref mm, .int (nI many), .int th, .ref mk]))]) (wr := [(mb, .inl (T 0, 1920, .inl fb)), (ml, .inl (T 0, 6, .inl fl)), (mm, .inl (T 0, 600, .inl fm)), (mk, .inl (T 0, 320, .inl fk))]) ⟨hx, hb, hml, hown, hts⟩ (c_X6_isWrong_p l D T g s.heap.size m0 mb ml mm mk many th 1 (by omega)) (cwV 1 hts gX6_read_X6_isWrong rfl rfl rfl (by decide +kernel) ⟨Nat.le_of_ble_eq_true rfl, Nat.le_of_ble_eq_true rfl⟩) (va_recv hK hP (ci := 3) (q0 := 0) rfl rfl) hP hD hK hG hS hA [0] [1, 2, 3, 4] rfl (by decide) rfl (by decide) (by decide) ⟨Nat.le_of_ble_eq_true rfl, Nat.le_of_ble_eq_true rfl⟩ rfl hl.1 (Nat.le_of_ble_eq_true rfl) dX6_read_34 rfl (fun u H locs hq1 hP hD hS => ?_)
  have hP : va_P D cls [(mb, .inl (T 0, 1920, .inl fb)), (ml, .inl (T 0, 6, .inl fl)), (mm, .inl (T 0, 600, .inl fm)), (mk, .inl (T 0, 320, .inl fk)), (m0, .inr (3, [.ref mb, .ref ml, .ref mm, .int (nI many), .int (nI 1), .ref mk]))] H := hP
  have hD : va_D A [(mb, .inl (T 0, 1920, .inl fb)), (ml, .inl (T 0, 6, .inl fl)), (mm, .inl (T 0, 600, .inl fm)), (mk, .inl (T 0, 320, .inl fk)), (m0, .inr (3, [.ref mb, .ref ml, .ref mm, .int (nI many), .int (nI 1), .ref mk]))] := hD
  refine W.eq (g2 := F0 m 37 ls [.int (nI 1)]) rfl ?_
  refine ln_if_eq_f (tgt := 42) hx hb (by omega) (by decide) dX6_read_37 (by decide) ?_
  refine lv_iconst (v := (nI 0)) hx hb dX6_read_40 (by decide +kernel) ?_
  have hP9 := hP.sub (ws' := [(m0, .inr (3, [.ref mb, .ref ml, .ref mm, .int (nI many), .int (nI 1), .ref mk])), (mb, .inl (T 0, 1920, .inl fb)), (ml, .inl (T 0, 6, .inl fl)), (mm, .inl (T 0, 600, .inl fm)), (mk, .inl (T 0, 320, .inl fk))]) [4, 0, 1, 2, 3] rfl
  have hD9 := hD.sub (ws' := [(m0, .inr (3, [.ref mb, .ref ml, .ref mm, .int (nI many), .int (nI 1), .ref mk])), (mb, .inl (T 0, 1920, .inl fb)), (ml, .inl (T 0, 6, .inl fl)), (mm, .inl (T 0, 600, .inl fm)), (mk, .inl (T 0, 320, .inl fk))]) [4, 0, 1, 2, 3] (by decide) rfl
  exact W.iret (v := (nI 0)) hx hb hr (fun t ht hW => ⟨⟨(many, (nI 1), fb, fl, fm, fk), rfl, show (nI 1) = nI 1 ∧ MR fl fb (N) (Bw) from ⟨rfl, hMR⟩, (by rw [ht]; exact hP9), va_K.moved hW.alike hK, hD9⟩, hS.F ht⟩) hS.2.2 dX6_read_41
set_option maxHeartbeats 4000000 in
set_option maxRecDepth 100000 in
theorem m_read_2 (l : Launch) (D : va_G) (T : Nat → ClassId) (g : Nat → Nat) (sz : Nat) (m0 : Nat) (mb : Nat) (ml : Nat) (mm : Nat) (mk : Nat) (many : Nat) (th : Int32) (fb : Nat → Int32) (fl : Nat → Int32) (fm : Nat → Int32) (fk : Nat → Int32) (N : Nat → Nat) (Bw : Nat → Nat → Nat) (hMR : MR fl fb N Bw) (i : Nat) (hi : i < 6) (j : Int32) (hj : j < 0 ∨ nI 5 < j) (x0 : Int32) : MU l yX6_read wsX6_read ({ frames := 60, cells := 0, slots := 0, locals := 3000 } : Room) D T g [.ref m0, .int (nI i), .int j, .int x0] [(m0, .inr (3, [.ref mb, .ref ml, .ref mm, .int (nI many), .int th, .ref mk])), (mb, .inl (T 0, 1920, .inl fb)), (ml, .inl (T 0, 6, .inl fl)), (mm, .inl (T 0, 600, .inl fm)), (mk, .inl (T 0, 320, .inl fk))] sz (fun u : Nat × Int32 × (Nat → Int32) × (Nat → Int32) × (Nat → Int32) × (Nat → Int32) => some (.int (nI 0))) (fun u : Nat × Int32 × (Nat → Int32) × (Nat → Int32) × (Nat → Int32) × (Nat → Int32) => u.2.1 = nI 1 ∧ MR u.2.2.2.1 u.2.2.1 (N) (Bw)) (fun u : Nat × Int32 × (Nat → Int32) × (Nat → Int32) × (Nat → Int32) × (Nat → Int32) => [(m0, .inr (3, [.ref mb, .ref ml, .ref mm, .int (nI u.1), .int u.2.1, .ref mk])), (mb, .inl (T 0, 1920, .inl u.2.2.1)), (ml, .inl (T 0, 6, .inl u.2.2.2.1)), (mm, .inl (T 0, 600, .inl u.2.2.2.2.1)), (mk, .inl (T 0, 320, .inl u.2.2.2.2.2))]) 0 0 := by
  refine Met.ofW (cc := cX6_read) (maxL := 5) (ret := (some .int)) (by decide) rfl ?_
  intro p e s m args below meth c s₁ B hml hv
  obtain ⟨rfl, hsz, hP, hK, hD0, hG⟩ := hv
  have hx := B.exec
  have hb := B.bytes
  have hr := B.returns
  have hts := atoms_spec (ws := wsX6_read) B.pre
  have hown : s.vm.findClass RX6 = some m.cls := findClass_of_methodNamed B.named
  have hlocks := B.notSynchronized
  subst hsz
  have hD := hD0.self (sz := s.heap.size)
  generalize hAe : va_A [(m0, .inr (3, [.ref mb, .ref ml, .ref mm, .int (nI many), .int th, .ref mk])), (mb, .inl (T 0, 1920, .inl fb)), (ml, .inl (T 0, 6, .inl fl)), (mm, .inl (T 0, 600, .inl fm)), (mk, .inl (T 0, 320, .inl fk))] s.heap.size = A at hD hG ⊢
  have hA : ∀ q : Nat, s.heap.size ≤ q → A q := fun q h => by rw [← hAe]; exact Or.inr h
  have hS : va_S A s.heap s.heap [] := va_S.rf
  have hP : va_P D cls [(m0, .inr (3, [.ref mb, .ref ml, .ref mm, .int (nI many), .int th, .ref mk])), (mb, .inl (T 0, 1920, .inl fb)), (ml, .inl (T 0, 6, .inl fl)), (mm, .inl (T 0, 600, .inl fm)), (mk, .inl (T 0, 320, .inl fk))] s.heap := hP
  have hl := lv_entry ([.ref m0, .int (nI i), .int j, .int x0]) (n := 5) (Nat.le_of_ble_eq_true rfl)
  rw [lg_entry_eq]
  generalize (lg_sl ([.ref m0, .int (nI i), .int j, .int x0]) ++ List.replicate (5 - (lg_sl ([.ref m0, .int (nI i), .int j, .int x0])).length) Slot.unset).toArray = ls at hl ⊢
  have hl : lv_has ls 5 [(0, .ref m0), (1, .int (nI i)), (2, .int j), (3, .int x0)] := hl
  refine lv_aload_n hx hb dX6_read_0 rfl (lv_at hl 0 rfl) ?_
  refine lv_aload_n hx hb dX6_read_1 rfl (lv_at hl 0 rfl) ?_
  refine lv_iload_n hx hb dX6_read_2 rfl (lv_at hl 1 rfl) ?_
  refine ro_V (As := [.int (nI i)]) (rest := [.ref m0]) (wc := []) (r := .int (nI 1)) ⟨hx, hb, hml, hown, hts⟩ (c_X6_isRow_y l D T g m0 i (by omega)) (cwV 1 hts gX6_read_X6_isRow rfl rfl rfl (by decide +kernel) ⟨Nat.le_of_ble_eq_true rfl, Nat.le_of_ble_eq_true rfl⟩) (va_recv hK hP (ci := 3) (q0 := 0) rfl rfl) hP hK hG hS [] rfl ⟨Nat.zero_le _, Nat.zero_le _⟩ rfl hl.1 (Nat.le_of_ble_eq_true rfl) dX6_read_3 rfl ?_
  refine ln_if_eq_f (tgt := 17) hx hb (by omega) (by decide) dX6_read_6 (by decide) ?_
  refine lv_aload_n hx hb dX6_read_9 rfl (lv_at hl 0 rfl) ?_
  refine lv_iload_n hx hb dX6_read_10 rfl (lv_at hl 2 rfl) ?_
  refine ro_V (As := [.int j]) (rest := [.ref m0]) (wc := []) (r := .int (nI 0)) ⟨hx, hb, hml, hown, hts⟩ (c_X6_isRow_n l D T g m0 j hj) (cwV 1 hts gX6_read_X6_isRow rfl rfl rfl (by decide +kernel) ⟨Nat.le_of_ble_eq_true rfl, Nat.le_of_ble_eq_true rfl⟩) (va_recv hK hP (ci := 3) (q0 := 0) rfl rfl) hP hK hG hS [] rfl ⟨Nat.zero_le _, Nat.zero_le _⟩ rfl hl.1 (Nat.le_of_ble_eq_true rfl) dX6_read_11 rfl ?_
  refine ln_if_ne_f (tgt := 21) hx hb (by omega) (by decide) dX6_read_14 (by decide) ?_
  refine lv_iconst (v := (nI 1)) hx hb dX6_read_17 (by decide +kernel) ?_
  refine lv_goto (tgt := 34) hx hb dX6_read_18 (by decide) ?_
  refine mu_V (As := [.int (nI 1)]) (rest := []) (wc := [(m0, .inr (3, [.ref mb, .ref ml, .ref mm, .int (nI many), .int th, .ref mk]))]) (wr := [(mb, .inl (T 0, 1920, .inl fb)), (ml, .inl (T 0, 6, .inl fl)), (mm, .inl (T 0, 600, .inl fm)), (mk, .inl (T 0, 320, .inl fk))]) ⟨hx, hb, hml, hown, hts⟩ (c_X6_isWrong_p l D T g s.heap.size m0 mb ml mm mk many th 1 (by omega)) (cwV 1 hts gX6_read_X6_isWrong rfl rfl rfl (by decide +kernel) ⟨Nat.le_of_ble_eq_true rfl, Nat.le_of_ble_eq_true rfl⟩) (va_recv hK hP (ci := 3) (q0 := 0) rfl rfl) hP hD hK hG hS hA [0] [1, 2, 3, 4] rfl (by decide) rfl (by decide) (by decide) ⟨Nat.le_of_ble_eq_true rfl, Nat.le_of_ble_eq_true rfl⟩ rfl hl.1 (Nat.le_of_ble_eq_true rfl) dX6_read_34 rfl (fun u H locs hq1 hP hD hS => ?_)
  have hP : va_P D cls [(mb, .inl (T 0, 1920, .inl fb)), (ml, .inl (T 0, 6, .inl fl)), (mm, .inl (T 0, 600, .inl fm)), (mk, .inl (T 0, 320, .inl fk)), (m0, .inr (3, [.ref mb, .ref ml, .ref mm, .int (nI many), .int (nI 1), .ref mk]))] H := hP
  have hD : va_D A [(mb, .inl (T 0, 1920, .inl fb)), (ml, .inl (T 0, 6, .inl fl)), (mm, .inl (T 0, 600, .inl fm)), (mk, .inl (T 0, 320, .inl fk)), (m0, .inr (3, [.ref mb, .ref ml, .ref mm, .int (nI many), .int (nI 1), .ref mk]))] := hD
  refine W.eq (g2 := F0 m 37 ls [.int (nI 1)]) rfl ?_
  refine ln_if_eq_f (tgt := 42) hx hb (by omega) (by decide) dX6_read_37 (by decide) ?_
  refine lv_iconst (v := (nI 0)) hx hb dX6_read_40 (by decide +kernel) ?_
  have hP9 := hP.sub (ws' := [(m0, .inr (3, [.ref mb, .ref ml, .ref mm, .int (nI many), .int (nI 1), .ref mk])), (mb, .inl (T 0, 1920, .inl fb)), (ml, .inl (T 0, 6, .inl fl)), (mm, .inl (T 0, 600, .inl fm)), (mk, .inl (T 0, 320, .inl fk))]) [4, 0, 1, 2, 3] rfl
  have hD9 := hD.sub (ws' := [(m0, .inr (3, [.ref mb, .ref ml, .ref mm, .int (nI many), .int (nI 1), .ref mk])), (mb, .inl (T 0, 1920, .inl fb)), (ml, .inl (T 0, 6, .inl fl)), (mm, .inl (T 0, 600, .inl fm)), (mk, .inl (T 0, 320, .inl fk))]) [4, 0, 1, 2, 3] (by decide) rfl
  exact W.iret (v := (nI 0)) hx hb hr (fun t ht hW => ⟨⟨(many, (nI 1), fb, fl, fm, fk), rfl, show (nI 1) = nI 1 ∧ MR fl fb (N) (Bw) from ⟨rfl, hMR⟩, (by rw [ht]; exact hP9), va_K.moved hW.alike hK, hD9⟩, hS.F ht⟩) hS.2.2 dX6_read_41
set_option maxHeartbeats 4000000 in
set_option maxRecDepth 100000 in
theorem m_read_3 (l : Launch) (D : va_G) (T : Nat → ClassId) (g : Nat → Nat) (sz : Nat) (m0 : Nat) (mb : Nat) (ml : Nat) (mm : Nat) (mk : Nat) (many : Nat) (th : Int32) (fb : Nat → Int32) (fl : Nat → Int32) (fm : Nat → Int32) (fk : Nat → Int32) (N : Nat → Nat) (Bw : Nat → Nat → Nat) (hMR : MR fl fb N Bw) (i : Nat) (hi : i < 6) (j : Nat) (hj : j < 6) (k : Int32) (hk : k < 0 ∨ nI 2 < k) : MU l yX6_read wsX6_read ({ frames := 60, cells := 0, slots := 0, locals := 3000 } : Room) D T g [.ref m0, .int (nI i), .int (nI j), .int k] [(m0, .inr (3, [.ref mb, .ref ml, .ref mm, .int (nI many), .int th, .ref mk])), (mb, .inl (T 0, 1920, .inl fb)), (ml, .inl (T 0, 6, .inl fl)), (mm, .inl (T 0, 600, .inl fm)), (mk, .inl (T 0, 320, .inl fk))] sz (fun u : Nat × Int32 × (Nat → Int32) × (Nat → Int32) × (Nat → Int32) × (Nat → Int32) => some (.int (nI 0))) (fun u : Nat × Int32 × (Nat → Int32) × (Nat → Int32) × (Nat → Int32) × (Nat → Int32) => u.2.1 = nI 2 ∧ MR u.2.2.2.1 u.2.2.1 (N) (Bw)) (fun u : Nat × Int32 × (Nat → Int32) × (Nat → Int32) × (Nat → Int32) × (Nat → Int32) => [(m0, .inr (3, [.ref mb, .ref ml, .ref mm, .int (nI u.1), .int u.2.1, .ref mk])), (mb, .inl (T 0, 1920, .inl u.2.2.1)), (ml, .inl (T 0, 6, .inl u.2.2.2.1)), (mm, .inl (T 0, 600, .inl u.2.2.2.2.1)), (mk, .inl (T 0, 320, .inl u.2.2.2.2.2))]) 0 0 := by
  refine Met.ofW (cc := cX6_read) (maxL := 5) (ret := (some .int)) (by decide) rfl ?_
  intro p e s m args below meth c s₁ B hml hv
  obtain ⟨rfl, hsz, hP, hK, hD0, hG⟩ := hv
  have hx := B.exec
  have hb := B.bytes
  have hr := B.returns
  have hts := atoms_spec (ws := wsX6_read) B.pre
  have hown : s.vm.findClass RX6 = some m.cls := findClass_of_methodNamed B.named
  have hlocks := B.notSynchronized
  subst hsz
  have hD := hD0.self (sz := s.heap.size)
  generalize hAe : va_A [(m0, .inr (3, [.ref mb, .ref ml, .ref mm, .int (nI many), .int th, .ref mk])), (mb, .inl (T 0, 1920, .inl fb)), (ml, .inl (T 0, 6, .inl fl)), (mm, .inl (T 0, 600, .inl fm)), (mk, .inl (T 0, 320, .inl fk))] s.heap.size = A at hD hG ⊢
  have hA : ∀ q : Nat, s.heap.size ≤ q → A q := fun q h => by rw [← hAe]; exact Or.inr h
  have hS : va_S A s.heap s.heap [] := va_S.rf
  have hP : va_P D cls [(m0, .inr (3, [.ref mb, .ref ml, .ref mm, .int (nI many), .int th, .ref mk])), (mb, .inl (T 0, 1920, .inl fb)), (ml, .inl (T 0, 6, .inl fl)), (mm, .inl (T 0, 600, .inl fm)), (mk, .inl (T 0, 320, .inl fk))] s.heap := hP
  have hl := lv_entry ([.ref m0, .int (nI i), .int (nI j), .int k]) (n := 5) (Nat.le_of_ble_eq_true rfl)
  rw [lg_entry_eq]
  generalize (lg_sl ([.ref m0, .int (nI i), .int (nI j), .int k]) ++ List.replicate (5 - (lg_sl ([.ref m0, .int (nI i), .int (nI j), .int k])).length) Slot.unset).toArray = ls at hl ⊢
  have hl : lv_has ls 5 [(0, .ref m0), (1, .int (nI i)), (2, .int (nI j)), (3, .int k)] := hl
  refine lv_aload_n hx hb dX6_read_0 rfl (lv_at hl 0 rfl) ?_
  refine lv_aload_n hx hb dX6_read_1 rfl (lv_at hl 0 rfl) ?_
  refine lv_iload_n hx hb dX6_read_2 rfl (lv_at hl 1 rfl) ?_
  refine ro_V (As := [.int (nI i)]) (rest := [.ref m0]) (wc := []) (r := .int (nI 1)) ⟨hx, hb, hml, hown, hts⟩ (c_X6_isRow_y l D T g m0 i (by omega)) (cwV 1 hts gX6_read_X6_isRow rfl rfl rfl (by decide +kernel) ⟨Nat.le_of_ble_eq_true rfl, Nat.le_of_ble_eq_true rfl⟩) (va_recv hK hP (ci := 3) (q0 := 0) rfl rfl) hP hK hG hS [] rfl ⟨Nat.zero_le _, Nat.zero_le _⟩ rfl hl.1 (Nat.le_of_ble_eq_true rfl) dX6_read_3 rfl ?_
  refine ln_if_eq_f (tgt := 17) hx hb (by omega) (by decide) dX6_read_6 (by decide) ?_
  refine lv_aload_n hx hb dX6_read_9 rfl (lv_at hl 0 rfl) ?_
  refine lv_iload_n hx hb dX6_read_10 rfl (lv_at hl 2 rfl) ?_
  refine ro_V (As := [.int (nI j)]) (rest := [.ref m0]) (wc := []) (r := .int (nI 1)) ⟨hx, hb, hml, hown, hts⟩ (c_X6_isRow_y l D T g m0 j (by omega)) (cwV 1 hts gX6_read_X6_isRow rfl rfl rfl (by decide +kernel) ⟨Nat.le_of_ble_eq_true rfl, Nat.le_of_ble_eq_true rfl⟩) (va_recv hK hP (ci := 3) (q0 := 0) rfl rfl) hP hK hG hS [] rfl ⟨Nat.zero_le _, Nat.zero_le _⟩ rfl hl.1 (Nat.le_of_ble_eq_true rfl) dX6_read_11 rfl ?_
  refine ln_if_ne_t (tgt := 21) hx hb (by omega) (by decide) dX6_read_14 (by decide) ?_
  refine lv_aload_n hx hb dX6_read_21 rfl (lv_at hl 0 rfl) ?_
  refine lv_iload_n hx hb dX6_read_22 rfl (lv_at hl 3 rfl) ?_
  refine ro_V (As := [.int k]) (rest := [.ref m0]) (wc := []) (r := .int (nI 0)) ⟨hx, hb, hml, hown, hts⟩ (c_X6_isKind_n l D T g m0 k hk) (cwV 1 hts gX6_read_X6_isKind rfl rfl rfl (by decide +kernel) ⟨Nat.le_of_ble_eq_true rfl, Nat.le_of_ble_eq_true rfl⟩) (va_recv hK hP (ci := 3) (q0 := 0) rfl rfl) hP hK hG hS [] rfl ⟨Nat.zero_le _, Nat.zero_le _⟩ rfl hl.1 (Nat.le_of_ble_eq_true rfl) dX6_read_23 rfl ?_
  refine ln_if_ne_f (tgt := 33) hx hb (by omega) (by decide) dX6_read_26 (by decide) ?_
  refine lv_iconst (v := (nI 2)) hx hb dX6_read_29 (by decide +kernel) ?_
  refine lv_goto (tgt := 34) hx hb dX6_read_30 (by decide) ?_
  refine mu_V (As := [.int (nI 2)]) (rest := []) (wc := [(m0, .inr (3, [.ref mb, .ref ml, .ref mm, .int (nI many), .int th, .ref mk]))]) (wr := [(mb, .inl (T 0, 1920, .inl fb)), (ml, .inl (T 0, 6, .inl fl)), (mm, .inl (T 0, 600, .inl fm)), (mk, .inl (T 0, 320, .inl fk))]) ⟨hx, hb, hml, hown, hts⟩ (c_X6_isWrong_p l D T g s.heap.size m0 mb ml mm mk many th 2 (by omega)) (cwV 1 hts gX6_read_X6_isWrong rfl rfl rfl (by decide +kernel) ⟨Nat.le_of_ble_eq_true rfl, Nat.le_of_ble_eq_true rfl⟩) (va_recv hK hP (ci := 3) (q0 := 0) rfl rfl) hP hD hK hG hS hA [0] [1, 2, 3, 4] rfl (by decide) rfl (by decide) (by decide) ⟨Nat.le_of_ble_eq_true rfl, Nat.le_of_ble_eq_true rfl⟩ rfl hl.1 (Nat.le_of_ble_eq_true rfl) dX6_read_34 rfl (fun u H locs hq1 hP hD hS => ?_)
  have hP : va_P D cls [(mb, .inl (T 0, 1920, .inl fb)), (ml, .inl (T 0, 6, .inl fl)), (mm, .inl (T 0, 600, .inl fm)), (mk, .inl (T 0, 320, .inl fk)), (m0, .inr (3, [.ref mb, .ref ml, .ref mm, .int (nI many), .int (nI 2), .ref mk]))] H := hP
  have hD : va_D A [(mb, .inl (T 0, 1920, .inl fb)), (ml, .inl (T 0, 6, .inl fl)), (mm, .inl (T 0, 600, .inl fm)), (mk, .inl (T 0, 320, .inl fk)), (m0, .inr (3, [.ref mb, .ref ml, .ref mm, .int (nI many), .int (nI 2), .ref mk]))] := hD
  refine W.eq (g2 := F0 m 37 ls [.int (nI 1)]) rfl ?_
  refine ln_if_eq_f (tgt := 42) hx hb (by omega) (by decide) dX6_read_37 (by decide) ?_
  refine lv_iconst (v := (nI 0)) hx hb dX6_read_40 (by decide +kernel) ?_
  have hP9 := hP.sub (ws' := [(m0, .inr (3, [.ref mb, .ref ml, .ref mm, .int (nI many), .int (nI 2), .ref mk])), (mb, .inl (T 0, 1920, .inl fb)), (ml, .inl (T 0, 6, .inl fl)), (mm, .inl (T 0, 600, .inl fm)), (mk, .inl (T 0, 320, .inl fk))]) [4, 0, 1, 2, 3] rfl
  have hD9 := hD.sub (ws' := [(m0, .inr (3, [.ref mb, .ref ml, .ref mm, .int (nI many), .int (nI 2), .ref mk])), (mb, .inl (T 0, 1920, .inl fb)), (ml, .inl (T 0, 6, .inl fl)), (mm, .inl (T 0, 600, .inl fm)), (mk, .inl (T 0, 320, .inl fk))]) [4, 0, 1, 2, 3] (by decide) rfl
  exact W.iret (v := (nI 0)) hx hb hr (fun t ht hW => ⟨⟨(many, (nI 2), fb, fl, fm, fk), rfl, show (nI 2) = nI 2 ∧ MR fl fb (N) (Bw) from ⟨rfl, hMR⟩, (by rw [ht]; exact hP9), va_K.moved hW.alike hK, hD9⟩, hS.F ht⟩) hS.2.2 dX6_read_41
set_option maxHeartbeats 4000000 in
set_option maxRecDepth 100000 in
theorem m_read_4 (l : Launch) (D : va_G) (T : Nat → ClassId) (g : Nat → Nat) (sz : Nat) (m0 : Nat) (mb : Nat) (ml : Nat) (mm : Nat) (mk : Nat) (many : Nat) (th : Int32) (fb : Nat → Int32) (fl : Nat → Int32) (fm : Nat → Int32) (fk : Nat → Int32) (N : Nat → Nat) (Bw : Nat → Nat → Nat) (hMR : MR fl fb N Bw) (i : Nat) (hi : i < 6) (j : Nat) (hj : j < 6) (k : Nat) (hk : k < 3) (hw : wroB k (N i) (Bw i) = true) : MU l yX6_read wsX6_read ({ frames := 60, cells := 0, slots := 0, locals := 3000 } : Room) D T g [.ref m0, .int (nI i), .int (nI j), .int (nI k)] [(m0, .inr (3, [.ref mb, .ref ml, .ref mm, .int (nI many), .int th, .ref mk])), (mb, .inl (T 0, 1920, .inl fb)), (ml, .inl (T 0, 6, .inl fl)), (mm, .inl (T 0, 600, .inl fm)), (mk, .inl (T 0, 320, .inl fk))] sz (fun u : Nat × Int32 × (Nat → Int32) × (Nat → Int32) × (Nat → Int32) × (Nat → Int32) => some (.int (nI 0))) (fun u : Nat × Int32 × (Nat → Int32) × (Nat → Int32) × (Nat → Int32) × (Nat → Int32) => u.2.1 = nI 2 ∧ MR u.2.2.2.1 u.2.2.1 (N) (Bw)) (fun u : Nat × Int32 × (Nat → Int32) × (Nat → Int32) × (Nat → Int32) × (Nat → Int32) => [(m0, .inr (3, [.ref mb, .ref ml, .ref mm, .int (nI u.1), .int u.2.1, .ref mk])), (mb, .inl (T 0, 1920, .inl u.2.2.1)), (ml, .inl (T 0, 6, .inl u.2.2.2.1)), (mm, .inl (T 0, 600, .inl u.2.2.2.2.1)), (mk, .inl (T 0, 320, .inl u.2.2.2.2.2))]) 0 0 := by
  refine Met.ofW (cc := cX6_read) (maxL := 5) (ret := (some .int)) (by decide) rfl ?_
  intro p e s m args below meth c s₁ B hml hv
  obtain ⟨rfl, hsz, hP, hK, hD0, hG⟩ := hv
  have hx := B.exec
  have hb := B.bytes
  have hr := B.returns
  have hts := atoms_spec (ws := wsX6_read) B.pre
  have hown : s.vm.findClass RX6 = some m.cls := findClass_of_methodNamed B.named
  have hlocks := B.notSynchronized
  subst hsz
  have hD := hD0.self (sz := s.heap.size)
  generalize hAe : va_A [(m0, .inr (3, [.ref mb, .ref ml, .ref mm, .int (nI many), .int th, .ref mk])), (mb, .inl (T 0, 1920, .inl fb)), (ml, .inl (T 0, 6, .inl fl)), (mm, .inl (T 0, 600, .inl fm)), (mk, .inl (T 0, 320, .inl fk))] s.heap.size = A at hD hG ⊢
  have hA : ∀ q : Nat, s.heap.size ≤ q → A q := fun q h => by rw [← hAe]; exact Or.inr h
  have hS : va_S A s.heap s.heap [] := va_S.rf
  have hP : va_P D cls [(m0, .inr (3, [.ref mb, .ref ml, .ref mm, .int (nI many), .int th, .ref mk])), (mb, .inl (T 0, 1920, .inl fb)), (ml, .inl (T 0, 6, .inl fl)), (mm, .inl (T 0, 600, .inl fm)), (mk, .inl (T 0, 320, .inl fk))] s.heap := hP
  have hl := lv_entry ([.ref m0, .int (nI i), .int (nI j), .int (nI k)]) (n := 5) (Nat.le_of_ble_eq_true rfl)
  rw [lg_entry_eq]
  generalize (lg_sl ([.ref m0, .int (nI i), .int (nI j), .int (nI k)]) ++ List.replicate (5 - (lg_sl ([.ref m0, .int (nI i), .int (nI j), .int (nI k)])).length) Slot.unset).toArray = ls at hl ⊢
  have hl : lv_has ls 5 [(0, .ref m0), (1, .int (nI i)), (2, .int (nI j)), (3, .int (nI k))] := hl
  have hrow := hMR i hi
  have hn := hrow.2.1
  refine lv_aload_n hx hb dX6_read_0 rfl (lv_at hl 0 rfl) ?_
  refine lv_aload_n hx hb dX6_read_1 rfl (lv_at hl 0 rfl) ?_
  refine lv_iload_n hx hb dX6_read_2 rfl (lv_at hl 1 rfl) ?_
  refine ro_V (As := [.int (nI i)]) (rest := [.ref m0]) (wc := []) (r := .int (nI 1)) ⟨hx, hb, hml, hown, hts⟩ (c_X6_isRow_y l D T g m0 i (by omega)) (cwV 1 hts gX6_read_X6_isRow rfl rfl rfl (by decide +kernel) ⟨Nat.le_of_ble_eq_true rfl, Nat.le_of_ble_eq_true rfl⟩) (va_recv hK hP (ci := 3) (q0 := 0) rfl rfl) hP hK hG hS [] rfl ⟨Nat.zero_le _, Nat.zero_le _⟩ rfl hl.1 (Nat.le_of_ble_eq_true rfl) dX6_read_3 rfl ?_
  refine ln_if_eq_f (tgt := 17) hx hb (by omega) (by decide) dX6_read_6 (by decide) ?_
  refine lv_aload_n hx hb dX6_read_9 rfl (lv_at hl 0 rfl) ?_
  refine lv_iload_n hx hb dX6_read_10 rfl (lv_at hl 2 rfl) ?_
  refine ro_V (As := [.int (nI j)]) (rest := [.ref m0]) (wc := []) (r := .int (nI 1)) ⟨hx, hb, hml, hown, hts⟩ (c_X6_isRow_y l D T g m0 j (by omega)) (cwV 1 hts gX6_read_X6_isRow rfl rfl rfl (by decide +kernel) ⟨Nat.le_of_ble_eq_true rfl, Nat.le_of_ble_eq_true rfl⟩) (va_recv hK hP (ci := 3) (q0 := 0) rfl rfl) hP hK hG hS [] rfl ⟨Nat.zero_le _, Nat.zero_le _⟩ rfl hl.1 (Nat.le_of_ble_eq_true rfl) dX6_read_11 rfl ?_
  refine ln_if_ne_t (tgt := 21) hx hb (by omega) (by decide) dX6_read_14 (by decide) ?_
  refine lv_aload_n hx hb dX6_read_21 rfl (lv_at hl 0 rfl) ?_
  refine lv_iload_n hx hb dX6_read_22 rfl (lv_at hl 3 rfl) ?_
  refine ro_V (As := [.int (nI k)]) (rest := [.ref m0]) (wc := []) (r := .int (nI 1)) ⟨hx, hb, hml, hown, hts⟩ (c_X6_isKind_y l D T g m0 k (by omega)) (cwV 1 hts gX6_read_X6_isKind rfl rfl rfl (by decide +kernel) ⟨Nat.le_of_ble_eq_true rfl, Nat.le_of_ble_eq_true rfl⟩) (va_recv hK hP (ci := 3) (q0 := 0) rfl rfl) hP hK hG hS [] rfl ⟨Nat.zero_le _, Nat.zero_le _⟩ rfl hl.1 (Nat.le_of_ble_eq_true rfl) dX6_read_23 rfl ?_
  refine ln_if_ne_t (tgt := 33) hx hb (by omega) (by decide) dX6_read_26 (by decide) ?_
  refine lv_iconst (v := (nI 0)) hx hb dX6_read_33 (by decide +kernel) ?_
  refine mu_V (As := [.int (nI 0)]) (rest := []) (wc := [(m0, .inr (3, [.ref mb, .ref ml, .ref mm, .int (nI many), .int th, .ref mk]))]) (wr := [(mb, .inl (T 0, 1920, .inl fb)), (ml, .inl (T 0, 6, .inl fl)), (mm, .inl (T 0, 600, .inl fm)), (mk, .inl (T 0, 320, .inl fk))]) ⟨hx, hb, hml, hown, hts⟩ (c_X6_isWrong_0 l D T g s.heap.size m0 mb ml mm mk many th) (cwV 1 hts gX6_read_X6_isWrong rfl rfl rfl (by decide +kernel) ⟨Nat.le_of_ble_eq_true rfl, Nat.le_of_ble_eq_true rfl⟩) (va_recv hK hP (ci := 3) (q0 := 0) rfl rfl) hP hD hK hG hS hA [0] [1, 2, 3, 4] rfl (by decide) rfl (by decide) (by decide) ⟨Nat.le_of_ble_eq_true rfl, Nat.le_of_ble_eq_true rfl⟩ rfl hl.1 (Nat.le_of_ble_eq_true rfl) dX6_read_34 rfl (fun u H locs hq1 hP hD hS => ?_)
  have hP : va_P D cls [(mb, .inl (T 0, 1920, .inl fb)), (ml, .inl (T 0, 6, .inl fl)), (mm, .inl (T 0, 600, .inl fm)), (mk, .inl (T 0, 320, .inl fk)), (m0, .inr (3, [.ref mb, .ref ml, .ref mm, .int (nI many), .int (nI 0), .ref mk]))] H := hP
  have hD : va_D A [(mb, .inl (T 0, 1920, .inl fb)), (ml, .inl (T 0, 6, .inl fl)), (mm, .inl (T 0, 600, .inl fm)), (mk, .inl (T 0, 320, .inl fk)), (m0, .inr (3, [.ref mb, .ref ml, .ref mm, .int (nI many), .int (nI 0), .ref mk]))] := hD
  refine W.eq (g2 := F0 m 37 ls [.int (nI 0)]) rfl ?_
  refine ln_if_eq_t (tgt := 42) hx hb (by omega) (by decide) dX6_read_37 (by decide) ?_
  refine lv_aload_n hx hb dX6_read_42 rfl (lv_at hl 0 rfl) ?_
  refine lv_iload_n hx hb dX6_read_43 rfl (lv_at hl 1 rfl) ?_
  refine lv_iload_n hx hb dX6_read_44 rfl (lv_at hl 3 rfl) ?_
  refine ro_V (As := [.int (nI i), .int (nI k)]) (rest := []) (wc := [(m0, .inr (3, [.ref mb, .ref ml, .ref mm, .int (nI many), .int (nI 0), .ref mk])), (ml, .inl (T 0, 6, .inl fl)), (mb, .inl (T 0, 1920, .inl fb))]) (r := .int (tlI k (N i) (Bw i))) ⟨hx, hb, hml, hown, hts⟩ (c_X6_looks l D T g m0 mb ml mm mk many (nI 0) fb fl i (N i) (Bw i) hi ((hMR i hi).1) ((hMR i hi).2) k hk) (cwV 2 hts gX6_read_X6_looks rfl rfl rfl (by decide +kernel) ⟨Nat.le_of_ble_eq_true rfl, Nat.le_of_ble_eq_true rfl⟩) (va_recv hK hP (ci := 3) (q0 := 4) rfl rfl) hP hK hG hS [4, 1, 0] rfl ⟨Nat.zero_le _, Nat.zero_le _⟩ rfl hl.1 (Nat.le_of_ble_eq_true rfl) dX6_read_45 rfl ?_
  rw [tl_wrong hw]
  refine lv_istore (lv' := [(4, .int (-1)), (0, .ref m0), (1, .int (nI i)), (2, .int (nI j)), (3, .int (nI k))]) hx hb dX6_read_48 hl (by decide) rfl (fun ls hl => ?_)
  refine lv_aload_n hx hb dX6_read_50 rfl (lv_at hl 1 rfl) ?_
  refine lv_iload hx hb dX6_read_51 (lv_at hl 0 rfl) ?_
  refine lv_iconst (v := (-1)) hx hb dX6_read_53 (by decide +kernel) ?_
  refine lv_icmp_ne (tgt := 61) hx hb dX6_read_54 (by decide) (fun q9 => absurd (rfl) q9) (fun _ => ?_)
  refine lv_iconst (v := (nI 2)) hx hb dX6_read_57 (by decide +kernel) ?_
  refine lv_goto (tgt := 73) hx hb dX6_read_58 (by decide) ?_
  refine mu_V (As := [.int (nI 2)]) (rest := []) (wc := [(m0, .inr (3, [.ref mb, .ref ml, .ref mm, .int (nI many), .int (nI 0), .ref mk]))]) (wr := [(mb, .inl (T 0, 1920, .inl fb)), (ml, .inl (T 0, 6, .inl fl)), (mm, .inl (T 0, 600, .inl fm)), (mk, .inl (T 0, 320, .inl fk))]) ⟨hx, hb, hml, hown, hts⟩ (c_X6_isWrong_p l D T g H.size m0 mb ml mm mk many (nI 0) 2 (by omega)) (cwV 1 hts gX6_read_X6_isWrong rfl rfl rfl (by decide +kernel) ⟨Nat.le_of_ble_eq_true rfl, Nat.le_of_ble_eq_true rfl⟩) (va_recv hK hP (ci := 3) (q0 := 4) rfl rfl) hP hD hK hG hS hA [4] [0, 1, 2, 3] rfl (by decide) rfl (by decide) (by decide) ⟨Nat.le_of_ble_eq_true rfl, Nat.le_of_ble_eq_true rfl⟩ rfl hl.1 (Nat.le_of_ble_eq_true rfl) dX6_read_73 rfl (fun u H locs hq2 hP hD hS => ?_)
  have hP : va_P D cls [(mb, .inl (T 0, 1920, .inl fb)), (ml, .inl (T 0, 6, .inl fl)), (mm, .inl (T 0, 600, .inl fm)), (mk, .inl (T 0, 320, .inl fk)), (m0, .inr (3, [.ref mb, .ref ml, .ref mm, .int (nI many), .int (nI 2), .ref mk]))] H := hP
  have hD : va_D A [(mb, .inl (T 0, 1920, .inl fb)), (ml, .inl (T 0, 6, .inl fl)), (mm, .inl (T 0, 600, .inl fm)), (mk, .inl (T 0, 320, .inl fk)), (m0, .inr (3, [.ref mb, .ref ml, .ref mm, .int (nI many), .int (nI 2), .ref mk]))] := hD
  refine W.eq (g2 := F0 m 76 ls [.int (nI 1)]) rfl ?_
  refine ln_if_eq_f (tgt := 81) hx hb (by omega) (by decide) dX6_read_76 (by decide) ?_
  refine lv_iconst (v := (nI 0)) hx hb dX6_read_79 (by decide +kernel) ?_
  have hP9 := hP.sub (ws' := [(m0, .inr (3, [.ref mb, .ref ml, .ref mm, .int (nI many), .int (nI 2), .ref mk])), (mb, .inl (T 0, 1920, .inl fb)), (ml, .inl (T 0, 6, .inl fl)), (mm, .inl (T 0, 600, .inl fm)), (mk, .inl (T 0, 320, .inl fk))]) [4, 0, 1, 2, 3] rfl
  have hD9 := hD.sub (ws' := [(m0, .inr (3, [.ref mb, .ref ml, .ref mm, .int (nI many), .int (nI 2), .ref mk])), (mb, .inl (T 0, 1920, .inl fb)), (ml, .inl (T 0, 6, .inl fl)), (mm, .inl (T 0, 600, .inl fm)), (mk, .inl (T 0, 320, .inl fk))]) [4, 0, 1, 2, 3] (by decide) rfl
  exact W.iret (v := (nI 0)) hx hb hr (fun t ht hW => ⟨⟨(many, (nI 2), fb, fl, fm, fk), rfl, show (nI 2) = nI 2 ∧ MR fl fb (N) (Bw) from ⟨rfl, hMR⟩, (by rw [ht]; exact hP9), va_K.moved hW.alike hK, hD9⟩, hS.F ht⟩) hS.2.2 dX6_read_80
set_option maxHeartbeats 4000000 in
set_option maxRecDepth 100000 in
theorem m_read_5 (l : Launch) (D : va_G) (T : Nat → ClassId) (g : Nat → Nat) (sz : Nat) (m0 : Nat) (mb : Nat) (ml : Nat) (mm : Nat) (mk : Nat) (many : Nat) (th : Int32) (fb : Nat → Int32) (fl : Nat → Int32) (fm : Nat → Int32) (fk : Nat → Int32) (N : Nat → Nat) (Bw : Nat → Nat → Nat) (hMR : MR fl fb N Bw) (i : Nat) (hi : i < 6) (j : Nat) (hj : j < 6) (k : Nat) (hk : k < 3) (hw : wroB k (N i) (Bw i) = false) (hu : untB k (N i) (Bw i) = true) : MU l yX6_read wsX6_read ({ frames := 60, cells := 0, slots := 0, locals := 3000 } : Room) D T g [.ref m0, .int (nI i), .int (nI j), .int (nI k)] [(m0, .inr (3, [.ref mb, .ref ml, .ref mm, .int (nI many), .int th, .ref mk])), (mb, .inl (T 0, 1920, .inl fb)), (ml, .inl (T 0, 6, .inl fl)), (mm, .inl (T 0, 600, .inl fm)), (mk, .inl (T 0, 320, .inl fk))] sz (fun u : Nat × Int32 × (Nat → Int32) × (Nat → Int32) × (Nat → Int32) × (Nat → Int32) => some (.int (nI 0))) (fun u : Nat × Int32 × (Nat → Int32) × (Nat → Int32) × (Nat → Int32) × (Nat → Int32) => u.2.1 = nI 3 ∧ MR u.2.2.2.1 u.2.2.1 (N) (Bw)) (fun u : Nat × Int32 × (Nat → Int32) × (Nat → Int32) × (Nat → Int32) × (Nat → Int32) => [(m0, .inr (3, [.ref mb, .ref ml, .ref mm, .int (nI u.1), .int u.2.1, .ref mk])), (mb, .inl (T 0, 1920, .inl u.2.2.1)), (ml, .inl (T 0, 6, .inl u.2.2.2.1)), (mm, .inl (T 0, 600, .inl u.2.2.2.2.1)), (mk, .inl (T 0, 320, .inl u.2.2.2.2.2))]) 0 0 := by
  refine Met.ofW (cc := cX6_read) (maxL := 5) (ret := (some .int)) (by decide) rfl ?_
  intro p e s m args below meth c s₁ B hml hv
  obtain ⟨rfl, hsz, hP, hK, hD0, hG⟩ := hv
  have hx := B.exec
  have hb := B.bytes
  have hr := B.returns
  have hts := atoms_spec (ws := wsX6_read) B.pre
  have hown : s.vm.findClass RX6 = some m.cls := findClass_of_methodNamed B.named
  have hlocks := B.notSynchronized
  subst hsz
  have hD := hD0.self (sz := s.heap.size)
  generalize hAe : va_A [(m0, .inr (3, [.ref mb, .ref ml, .ref mm, .int (nI many), .int th, .ref mk])), (mb, .inl (T 0, 1920, .inl fb)), (ml, .inl (T 0, 6, .inl fl)), (mm, .inl (T 0, 600, .inl fm)), (mk, .inl (T 0, 320, .inl fk))] s.heap.size = A at hD hG ⊢
  have hA : ∀ q : Nat, s.heap.size ≤ q → A q := fun q h => by rw [← hAe]; exact Or.inr h
  have hS : va_S A s.heap s.heap [] := va_S.rf
  have hP : va_P D cls [(m0, .inr (3, [.ref mb, .ref ml, .ref mm, .int (nI many), .int th, .ref mk])), (mb, .inl (T 0, 1920, .inl fb)), (ml, .inl (T 0, 6, .inl fl)), (mm, .inl (T 0, 600, .inl fm)), (mk, .inl (T 0, 320, .inl fk))] s.heap := hP
  have hl := lv_entry ([.ref m0, .int (nI i), .int (nI j), .int (nI k)]) (n := 5) (Nat.le_of_ble_eq_true rfl)
  rw [lg_entry_eq]
  generalize (lg_sl ([.ref m0, .int (nI i), .int (nI j), .int (nI k)]) ++ List.replicate (5 - (lg_sl ([.ref m0, .int (nI i), .int (nI j), .int (nI k)])).length) Slot.unset).toArray = ls at hl ⊢
  have hl : lv_has ls 5 [(0, .ref m0), (1, .int (nI i)), (2, .int (nI j)), (3, .int (nI k))] := hl
  have hrow := hMR i hi
  have hn := hrow.2.1
  refine lv_aload_n hx hb dX6_read_0 rfl (lv_at hl 0 rfl) ?_
  refine lv_aload_n hx hb dX6_read_1 rfl (lv_at hl 0 rfl) ?_
  refine lv_iload_n hx hb dX6_read_2 rfl (lv_at hl 1 rfl) ?_
  refine ro_V (As := [.int (nI i)]) (rest := [.ref m0]) (wc := []) (r := .int (nI 1)) ⟨hx, hb, hml, hown, hts⟩ (c_X6_isRow_y l D T g m0 i (by omega)) (cwV 1 hts gX6_read_X6_isRow rfl rfl rfl (by decide +kernel) ⟨Nat.le_of_ble_eq_true rfl, Nat.le_of_ble_eq_true rfl⟩) (va_recv hK hP (ci := 3) (q0 := 0) rfl rfl) hP hK hG hS [] rfl ⟨Nat.zero_le _, Nat.zero_le _⟩ rfl hl.1 (Nat.le_of_ble_eq_true rfl) dX6_read_3 rfl ?_
  refine ln_if_eq_f (tgt := 17) hx hb (by omega) (by decide) dX6_read_6 (by decide) ?_
  refine lv_aload_n hx hb dX6_read_9 rfl (lv_at hl 0 rfl) ?_
  refine lv_iload_n hx hb dX6_read_10 rfl (lv_at hl 2 rfl) ?_
  refine ro_V (As := [.int (nI j)]) (rest := [.ref m0]) (wc := []) (r := .int (nI 1)) ⟨hx, hb, hml, hown, hts⟩ (c_X6_isRow_y l D T g m0 j (by omega)) (cwV 1 hts gX6_read_X6_isRow rfl rfl rfl (by decide +kernel) ⟨Nat.le_of_ble_eq_true rfl, Nat.le_of_ble_eq_true rfl⟩) (va_recv hK hP (ci := 3) (q0 := 0) rfl rfl) hP hK hG hS [] rfl ⟨Nat.zero_le _, Nat.zero_le _⟩ rfl hl.1 (Nat.le_of_ble_eq_true rfl) dX6_read_11 rfl ?_
  refine ln_if_ne_t (tgt := 21) hx hb (by omega) (by decide) dX6_read_14 (by decide) ?_
  refine lv_aload_n hx hb dX6_read_21 rfl (lv_at hl 0 rfl) ?_
  refine lv_iload_n hx hb dX6_read_22 rfl (lv_at hl 3 rfl) ?_
  refine ro_V (As := [.int (nI k)]) (rest := [.ref m0]) (wc := []) (r := .int (nI 1)) ⟨hx, hb, hml, hown, hts⟩ (c_X6_isKind_y l D T g m0 k (by omega)) (cwV 1 hts gX6_read_X6_isKind rfl rfl rfl (by decide +kernel) ⟨Nat.le_of_ble_eq_true rfl, Nat.le_of_ble_eq_true rfl⟩) (va_recv hK hP (ci := 3) (q0 := 0) rfl rfl) hP hK hG hS [] rfl ⟨Nat.zero_le _, Nat.zero_le _⟩ rfl hl.1 (Nat.le_of_ble_eq_true rfl) dX6_read_23 rfl ?_
  refine ln_if_ne_t (tgt := 33) hx hb (by omega) (by decide) dX6_read_26 (by decide) ?_
  refine lv_iconst (v := (nI 0)) hx hb dX6_read_33 (by decide +kernel) ?_
  refine mu_V (As := [.int (nI 0)]) (rest := []) (wc := [(m0, .inr (3, [.ref mb, .ref ml, .ref mm, .int (nI many), .int th, .ref mk]))]) (wr := [(mb, .inl (T 0, 1920, .inl fb)), (ml, .inl (T 0, 6, .inl fl)), (mm, .inl (T 0, 600, .inl fm)), (mk, .inl (T 0, 320, .inl fk))]) ⟨hx, hb, hml, hown, hts⟩ (c_X6_isWrong_0 l D T g s.heap.size m0 mb ml mm mk many th) (cwV 1 hts gX6_read_X6_isWrong rfl rfl rfl (by decide +kernel) ⟨Nat.le_of_ble_eq_true rfl, Nat.le_of_ble_eq_true rfl⟩) (va_recv hK hP (ci := 3) (q0 := 0) rfl rfl) hP hD hK hG hS hA [0] [1, 2, 3, 4] rfl (by decide) rfl (by decide) (by decide) ⟨Nat.le_of_ble_eq_true rfl, Nat.le_of_ble_eq_true rfl⟩ rfl hl.1 (Nat.le_of_ble_eq_true rfl) dX6_read_34 rfl (fun u H locs hq1 hP hD hS => ?_)
  have hP : va_P D cls [(mb, .inl (T 0, 1920, .inl fb)), (ml, .inl (T 0, 6, .inl fl)), (mm, .inl (T 0, 600, .inl fm)), (mk, .inl (T 0, 320, .inl fk)), (m0, .inr (3, [.ref mb, .ref ml, .ref mm, .int (nI many), .int (nI 0), .ref mk]))] H := hP
  have hD : va_D A [(mb, .inl (T 0, 1920, .inl fb)), (ml, .inl (T 0, 6, .inl fl)), (mm, .inl (T 0, 600, .inl fm)), (mk, .inl (T 0, 320, .inl fk)), (m0, .inr (3, [.ref mb, .ref ml, .ref mm, .int (nI many), .int (nI 0), .ref mk]))] := hD
  refine W.eq (g2 := F0 m 37 ls [.int (nI 0)]) rfl ?_
  refine ln_if_eq_t (tgt := 42) hx hb (by omega) (by decide) dX6_read_37 (by decide) ?_
  refine lv_aload_n hx hb dX6_read_42 rfl (lv_at hl 0 rfl) ?_
  refine lv_iload_n hx hb dX6_read_43 rfl (lv_at hl 1 rfl) ?_
  refine lv_iload_n hx hb dX6_read_44 rfl (lv_at hl 3 rfl) ?_
  refine ro_V (As := [.int (nI i), .int (nI k)]) (rest := []) (wc := [(m0, .inr (3, [.ref mb, .ref ml, .ref mm, .int (nI many), .int (nI 0), .ref mk])), (ml, .inl (T 0, 6, .inl fl)), (mb, .inl (T 0, 1920, .inl fb))]) (r := .int (tlI k (N i) (Bw i))) ⟨hx, hb, hml, hown, hts⟩ (c_X6_looks l D T g m0 mb ml mm mk many (nI 0) fb fl i (N i) (Bw i) hi ((hMR i hi).1) ((hMR i hi).2) k hk) (cwV 2 hts gX6_read_X6_looks rfl rfl rfl (by decide +kernel) ⟨Nat.le_of_ble_eq_true rfl, Nat.le_of_ble_eq_true rfl⟩) (va_recv hK hP (ci := 3) (q0 := 4) rfl rfl) hP hK hG hS [4, 1, 0] rfl ⟨Nat.zero_le _, Nat.zero_le _⟩ rfl hl.1 (Nat.le_of_ble_eq_true rfl) dX6_read_45 rfl ?_
  rw [tl_unt hw hu]
  refine lv_istore (lv' := [(4, .int (-2)), (0, .ref m0), (1, .int (nI i)), (2, .int (nI j)), (3, .int (nI k))]) hx hb dX6_read_48 hl (by decide) rfl (fun ls hl => ?_)
  refine lv_aload_n hx hb dX6_read_50 rfl (lv_at hl 1 rfl) ?_
  refine lv_iload hx hb dX6_read_51 (lv_at hl 0 rfl) ?_
  refine lv_iconst (v := (-1)) hx hb dX6_read_53 (by decide +kernel) ?_
  refine lv_icmp_ne (tgt := 61) hx hb dX6_read_54 (by decide) (fun _ => ?_) (fun q9 => absurd q9 (by decide))
  refine lv_iload hx hb dX6_read_61 (lv_at hl 0 rfl) ?_
  refine lv_bipush (v := (-2)) hx hb dX6_read_63 (by decide +kernel) ?_
  refine lv_icmp_ne (tgt := 72) hx hb dX6_read_65 (by decide) (fun q9 => absurd (rfl) q9) (fun _ => ?_)
  refine lv_iconst (v := (nI 3)) hx hb dX6_read_68 (by decide +kernel) ?_
  refine lv_goto (tgt := 73) hx hb dX6_read_69 (by decide) ?_
  refine mu_V (As := [.int (nI 3)]) (rest := []) (wc := [(m0, .inr (3, [.ref mb, .ref ml, .ref mm, .int (nI many), .int (nI 0), .ref mk]))]) (wr := [(mb, .inl (T 0, 1920, .inl fb)), (ml, .inl (T 0, 6, .inl fl)), (mm, .inl (T 0, 600, .inl fm)), (mk, .inl (T 0, 320, .inl fk))]) ⟨hx, hb, hml, hown, hts⟩ (c_X6_isWrong_p l D T g H.size m0 mb ml mm mk many (nI 0) 3 (by omega)) (cwV 1 hts gX6_read_X6_isWrong rfl rfl rfl (by decide +kernel) ⟨Nat.le_of_ble_eq_true rfl, Nat.le_of_ble_eq_true rfl⟩) (va_recv hK hP (ci := 3) (q0 := 4) rfl rfl) hP hD hK hG hS hA [4] [0, 1, 2, 3] rfl (by decide) rfl (by decide) (by decide) ⟨Nat.le_of_ble_eq_true rfl, Nat.le_of_ble_eq_true rfl⟩ rfl hl.1 (Nat.le_of_ble_eq_true rfl) dX6_read_73 rfl (fun u H locs hq2 hP hD hS => ?_)
  have hP : va_P D cls [(mb, .inl (T 0, 1920, .inl fb)), (ml, .inl (T 0, 6, .inl fl)), (mm, .inl (T 0, 600, .inl fm)), (mk, .inl (T 0, 320, .inl fk)), (m0, .inr (3, [.ref mb, .ref ml, .ref mm, .int (nI many), .int (nI 3), .ref mk]))] H := hP
  have hD : va_D A [(mb, .inl (T 0, 1920, .inl fb)), (ml, .inl (T 0, 6, .inl fl)), (mm, .inl (T 0, 600, .inl fm)), (mk, .inl (T 0, 320, .inl fk)), (m0, .inr (3, [.ref mb, .ref ml, .ref mm, .int (nI many), .int (nI 3), .ref mk]))] := hD
  refine W.eq (g2 := F0 m 76 ls [.int (nI 1)]) rfl ?_
  refine ln_if_eq_f (tgt := 81) hx hb (by omega) (by decide) dX6_read_76 (by decide) ?_
  refine lv_iconst (v := (nI 0)) hx hb dX6_read_79 (by decide +kernel) ?_
  have hP9 := hP.sub (ws' := [(m0, .inr (3, [.ref mb, .ref ml, .ref mm, .int (nI many), .int (nI 3), .ref mk])), (mb, .inl (T 0, 1920, .inl fb)), (ml, .inl (T 0, 6, .inl fl)), (mm, .inl (T 0, 600, .inl fm)), (mk, .inl (T 0, 320, .inl fk))]) [4, 0, 1, 2, 3] rfl
  have hD9 := hD.sub (ws' := [(m0, .inr (3, [.ref mb, .ref ml, .ref mm, .int (nI many), .int (nI 3), .ref mk])), (mb, .inl (T 0, 1920, .inl fb)), (ml, .inl (T 0, 6, .inl fl)), (mm, .inl (T 0, 600, .inl fm)), (mk, .inl (T 0, 320, .inl fk))]) [4, 0, 1, 2, 3] (by decide) rfl
  exact W.iret (v := (nI 0)) hx hb hr (fun t ht hW => ⟨⟨(many, (nI 3), fb, fl, fm, fk), rfl, show (nI 3) = nI 3 ∧ MR fl fb (N) (Bw) from ⟨rfl, hMR⟩, (by rw [ht]; exact hP9), va_K.moved hW.alike hK, hD9⟩, hS.F ht⟩) hS.2.2 dX6_read_80
set_option maxHeartbeats 4000000 in
set_option maxRecDepth 100000 in
theorem m_read (l : Launch) (D : va_G) (T : Nat → ClassId) (g : Nat → Nat) (sz : Nat) (m0 : Nat) (mb : Nat) (ml : Nat) (mm : Nat) (mk : Nat) (many : Nat) (th : Int32) (fb : Nat → Int32) (fl : Nat → Int32) (fm : Nat → Int32) (fk : Nat → Int32) (N : Nat → Nat) (Bw : Nat → Nat → Nat) (hMR : MR fl fb N Bw) (i : Nat) (hi : i < 6) (j : Nat) (hj : j < 6) (k : Nat) (hk : k < 3) (hw : wroB k (N i) (Bw i) = false) (hu : untB k (N i) (Bw i) = false) : MU l yX6_read wsX6_read ({ frames := 60, cells := 0, slots := 0, locals := 3000 } : Room) D T g [.ref m0, .int (nI i), .int (nI j), .int (nI k)] [(m0, .inr (3, [.ref mb, .ref ml, .ref mm, .int (nI many), .int th, .ref mk])), (mb, .inl (T 0, 1920, .inl fb)), (ml, .inl (T 0, 6, .inl fl)), (mm, .inl (T 0, 600, .inl fm)), (mk, .inl (T 0, 320, .inl fk))] sz (fun u : Nat × Int32 × (Nat → Int32) × (Nat → Int32) × (Nat → Int32) × (Nat → Int32) => some (.int (nI (lF k (N i) (Bw i) * 6 / 8)))) (fun u : Nat × Int32 × (Nat → Int32) × (Nat → Int32) × (Nat → Int32) × (Nat → Int32) => u.2.1 = nI 0 ∧ MR u.2.2.2.1 u.2.2.1 (upA N j (lF k (N i) (Bw i) * 6 / 8)) (upA Bw j (outB (lwF k (N i) (Bw i))))) (fun u : Nat × Int32 × (Nat → Int32) × (Nat → Int32) × (Nat → Int32) × (Nat → Int32) => [(m0, .inr (3, [.ref mb, .ref ml, .ref mm, .int (nI u.1), .int u.2.1, .ref mk])), (mb, .inl (T 0, 1920, .inl u.2.2.1)), (ml, .inl (T 0, 6, .inl u.2.2.2.1)), (mm, .inl (T 0, 600, .inl u.2.2.2.2.1)), (mk, .inl (T 0, 320, .inl u.2.2.2.2.2))]) 0 0 := by
  refine Met.ofW (cc := cX6_read) (maxL := 5) (ret := (some .int)) (by decide) rfl ?_
  intro p e s m args below meth c s₁ B hml hv
  obtain ⟨rfl, hsz, hP, hK, hD0, hG⟩ := hv
  have hx := B.exec
  have hb := B.bytes
  have hr := B.returns
  have hts := atoms_spec (ws := wsX6_read) B.pre
  have hown : s.vm.findClass RX6 = some m.cls := findClass_of_methodNamed B.named
  have hlocks := B.notSynchronized
  subst hsz
  have hD := hD0.self (sz := s.heap.size)
  generalize hAe : va_A [(m0, .inr (3, [.ref mb, .ref ml, .ref mm, .int (nI many), .int th, .ref mk])), (mb, .inl (T 0, 1920, .inl fb)), (ml, .inl (T 0, 6, .inl fl)), (mm, .inl (T 0, 600, .inl fm)), (mk, .inl (T 0, 320, .inl fk))] s.heap.size = A at hD hG ⊢
  have hA : ∀ q : Nat, s.heap.size ≤ q → A q := fun q h => by rw [← hAe]; exact Or.inr h
  have hS : va_S A s.heap s.heap [] := va_S.rf
  have hP : va_P D cls [(m0, .inr (3, [.ref mb, .ref ml, .ref mm, .int (nI many), .int th, .ref mk])), (mb, .inl (T 0, 1920, .inl fb)), (ml, .inl (T 0, 6, .inl fl)), (mm, .inl (T 0, 600, .inl fm)), (mk, .inl (T 0, 320, .inl fk))] s.heap := hP
  have hl := lv_entry ([.ref m0, .int (nI i), .int (nI j), .int (nI k)]) (n := 5) (Nat.le_of_ble_eq_true rfl)
  rw [lg_entry_eq]
  generalize (lg_sl ([.ref m0, .int (nI i), .int (nI j), .int (nI k)]) ++ List.replicate (5 - (lg_sl ([.ref m0, .int (nI i), .int (nI j), .int (nI k)])).length) Slot.unset).toArray = ls at hl ⊢
  have hl : lv_has ls 5 [(0, .ref m0), (1, .int (nI i)), (2, .int (nI j)), (3, .int (nI k))] := hl
  have hrow := hMR i hi
  have hn := hrow.2.1
  have hz9 := l9_le (k := k) (b := Bw i) (n := N i) (by omega)
  refine lv_aload_n hx hb dX6_read_0 rfl (lv_at hl 0 rfl) ?_
  refine lv_aload_n hx hb dX6_read_1 rfl (lv_at hl 0 rfl) ?_
  refine lv_iload_n hx hb dX6_read_2 rfl (lv_at hl 1 rfl) ?_
  refine ro_V (As := [.int (nI i)]) (rest := [.ref m0]) (wc := []) (r := .int (nI 1)) ⟨hx, hb, hml, hown, hts⟩ (c_X6_isRow_y l D T g m0 i (by omega)) (cwV 1 hts gX6_read_X6_isRow rfl rfl rfl (by decide +kernel) ⟨Nat.le_of_ble_eq_true rfl, Nat.le_of_ble_eq_true rfl⟩) (va_recv hK hP (ci := 3) (q0 := 0) rfl rfl) hP hK hG hS [] rfl ⟨Nat.zero_le _, Nat.zero_le _⟩ rfl hl.1 (Nat.le_of_ble_eq_true rfl) dX6_read_3 rfl ?_
  refine ln_if_eq_f (tgt := 17) hx hb (by omega) (by decide) dX6_read_6 (by decide) ?_
  refine lv_aload_n hx hb dX6_read_9 rfl (lv_at hl 0 rfl) ?_
  refine lv_iload_n hx hb dX6_read_10 rfl (lv_at hl 2 rfl) ?_
  refine ro_V (As := [.int (nI j)]) (rest := [.ref m0]) (wc := []) (r := .int (nI 1)) ⟨hx, hb, hml, hown, hts⟩ (c_X6_isRow_y l D T g m0 j (by omega)) (cwV 1 hts gX6_read_X6_isRow rfl rfl rfl (by decide +kernel) ⟨Nat.le_of_ble_eq_true rfl, Nat.le_of_ble_eq_true rfl⟩) (va_recv hK hP (ci := 3) (q0 := 0) rfl rfl) hP hK hG hS [] rfl ⟨Nat.zero_le _, Nat.zero_le _⟩ rfl hl.1 (Nat.le_of_ble_eq_true rfl) dX6_read_11 rfl ?_
  refine ln_if_ne_t (tgt := 21) hx hb (by omega) (by decide) dX6_read_14 (by decide) ?_
  refine lv_aload_n hx hb dX6_read_21 rfl (lv_at hl 0 rfl) ?_
  refine lv_iload_n hx hb dX6_read_22 rfl (lv_at hl 3 rfl) ?_
  refine ro_V (As := [.int (nI k)]) (rest := [.ref m0]) (wc := []) (r := .int (nI 1)) ⟨hx, hb, hml, hown, hts⟩ (c_X6_isKind_y l D T g m0 k (by omega)) (cwV 1 hts gX6_read_X6_isKind rfl rfl rfl (by decide +kernel) ⟨Nat.le_of_ble_eq_true rfl, Nat.le_of_ble_eq_true rfl⟩) (va_recv hK hP (ci := 3) (q0 := 0) rfl rfl) hP hK hG hS [] rfl ⟨Nat.zero_le _, Nat.zero_le _⟩ rfl hl.1 (Nat.le_of_ble_eq_true rfl) dX6_read_23 rfl ?_
  refine ln_if_ne_t (tgt := 33) hx hb (by omega) (by decide) dX6_read_26 (by decide) ?_
  refine lv_iconst (v := (nI 0)) hx hb dX6_read_33 (by decide +kernel) ?_
  refine mu_V (As := [.int (nI 0)]) (rest := []) (wc := [(m0, .inr (3, [.ref mb, .ref ml, .ref mm, .int (nI many), .int th, .ref mk]))]) (wr := [(mb, .inl (T 0, 1920, .inl fb)), (ml, .inl (T 0, 6, .inl fl)), (mm, .inl (T 0, 600, .inl fm)), (mk, .inl (T 0, 320, .inl fk))]) ⟨hx, hb, hml, hown, hts⟩ (c_X6_isWrong_0 l D T g s.heap.size m0 mb ml mm mk many th) (cwV 1 hts gX6_read_X6_isWrong rfl rfl rfl (by decide +kernel) ⟨Nat.le_of_ble_eq_true rfl, Nat.le_of_ble_eq_true rfl⟩) (va_recv hK hP (ci := 3) (q0 := 0) rfl rfl) hP hD hK hG hS hA [0] [1, 2, 3, 4] rfl (by decide) rfl (by decide) (by decide) ⟨Nat.le_of_ble_eq_true rfl, Nat.le_of_ble_eq_true rfl⟩ rfl hl.1 (Nat.le_of_ble_eq_true rfl) dX6_read_34 rfl (fun u H locs hq1 hP hD hS => ?_)
  have hP : va_P D cls [(mb, .inl (T 0, 1920, .inl fb)), (ml, .inl (T 0, 6, .inl fl)), (mm, .inl (T 0, 600, .inl fm)), (mk, .inl (T 0, 320, .inl fk)), (m0, .inr (3, [.ref mb, .ref ml, .ref mm, .int (nI many), .int (nI 0), .ref mk]))] H := hP
  have hD : va_D A [(mb, .inl (T 0, 1920, .inl fb)), (ml, .inl (T 0, 6, .inl fl)), (mm, .inl (T 0, 600, .inl fm)), (mk, .inl (T 0, 320, .inl fk)), (m0, .inr (3, [.ref mb, .ref ml, .ref mm, .int (nI many), .int (nI 0), .ref mk]))] := hD
  refine W.eq (g2 := F0 m 37 ls [.int (nI 0)]) rfl ?_
  refine ln_if_eq_t (tgt := 42) hx hb (by omega) (by decide) dX6_read_37 (by decide) ?_
  refine lv_aload_n hx hb dX6_read_42 rfl (lv_at hl 0 rfl) ?_
  refine lv_iload_n hx hb dX6_read_43 rfl (lv_at hl 1 rfl) ?_
  refine lv_iload_n hx hb dX6_read_44 rfl (lv_at hl 3 rfl) ?_
  refine ro_V (As := [.int (nI i), .int (nI k)]) (rest := []) (wc := [(m0, .inr (3, [.ref mb, .ref ml, .ref mm, .int (nI many), .int (nI 0), .ref mk])), (ml, .inl (T 0, 6, .inl fl)), (mb, .inl (T 0, 1920, .inl fb))]) (r := .int (tlI k (N i) (Bw i))) ⟨hx, hb, hml, hown, hts⟩ (c_X6_looks l D T g m0 mb ml mm mk many (nI 0) fb fl i (N i) (Bw i) hi ((hMR i hi).1) ((hMR i hi).2) k hk) (cwV 2 hts gX6_read_X6_looks rfl rfl rfl (by decide +kernel) ⟨Nat.le_of_ble_eq_true rfl, Nat.le_of_ble_eq_true rfl⟩) (va_recv hK hP (ci := 3) (q0 := 4) rfl rfl) hP hK hG hS [4, 1, 0] rfl ⟨Nat.zero_le _, Nat.zero_le _⟩ rfl hl.1 (Nat.le_of_ble_eq_true rfl) dX6_read_45 rfl ?_
  rw [tl_good hw hu]
  refine lv_istore (lv' := [(4, .int (nI (lF k (N i) (Bw i) * 6 / 8))), (0, .ref m0), (1, .int (nI i)), (2, .int (nI j)), (3, .int (nI k))]) hx hb dX6_read_48 hl (by decide) rfl (fun ls hl => ?_)
  refine lv_aload_n hx hb dX6_read_50 rfl (lv_at hl 1 rfl) ?_
  refine lv_iload hx hb dX6_read_51 (lv_at hl 0 rfl) ?_
  refine lv_iconst (v := (-1)) hx hb dX6_read_53 (by decide +kernel) ?_
  refine lv_icmp_ne (tgt := 61) hx hb dX6_read_54 (by decide) (fun _ => ?_) (fun q9 => absurd q9 ((nI_nm (by omega)).1))
  refine lv_iload hx hb dX6_read_61 (lv_at hl 0 rfl) ?_
  refine lv_bipush (v := (-2)) hx hb dX6_read_63 (by decide +kernel) ?_
  refine lv_icmp_ne (tgt := 72) hx hb dX6_read_65 (by decide) (fun _ => ?_) (fun q9 => absurd q9 ((nI_nm (by omega)).2))
  refine lv_iconst (v := (nI 0)) hx hb dX6_read_72 (by decide +kernel) ?_
  refine mu_V (As := [.int (nI 0)]) (rest := []) (wc := [(m0, .inr (3, [.ref mb, .ref ml, .ref mm, .int (nI many), .int (nI 0), .ref mk]))]) (wr := [(mb, .inl (T 0, 1920, .inl fb)), (ml, .inl (T 0, 6, .inl fl)), (mm, .inl (T 0, 600, .inl fm)), (mk, .inl (T 0, 320, .inl fk))]) ⟨hx, hb, hml, hown, hts⟩ (c_X6_isWrong_0 l D T g H.size m0 mb ml mm mk many (nI 0)) (cwV 1 hts gX6_read_X6_isWrong rfl rfl rfl (by decide +kernel) ⟨Nat.le_of_ble_eq_true rfl, Nat.le_of_ble_eq_true rfl⟩) (va_recv hK hP (ci := 3) (q0 := 4) rfl rfl) hP hD hK hG hS hA [4] [0, 1, 2, 3] rfl (by decide) rfl (by decide) (by decide) ⟨Nat.le_of_ble_eq_true rfl, Nat.le_of_ble_eq_true rfl⟩ rfl hl.1 (Nat.le_of_ble_eq_true rfl) dX6_read_73 rfl (fun u H locs hq2 hP hD hS => ?_)
  have hP : va_P D cls [(mb, .inl (T 0, 1920, .inl fb)), (ml, .inl (T 0, 6, .inl fl)), (mm, .inl (T 0, 600, .inl fm)), (mk, .inl (T 0, 320, .inl fk)), (m0, .inr (3, [.ref mb, .ref ml, .ref mm, .int (nI many), .int (nI 0), .ref mk]))] H := hP
  have hD : va_D A [(mb, .inl (T 0, 1920, .inl fb)), (ml, .inl (T 0, 6, .inl fl)), (mm, .inl (T 0, 600, .inl fm)), (mk, .inl (T 0, 320, .inl fk)), (m0, .inr (3, [.ref mb, .ref ml, .ref mm, .int (nI many), .int (nI 0), .ref mk]))] := hD
  refine W.eq (g2 := F0 m 76 ls [.int (nI 0)]) rfl ?_
  refine ln_if_eq_t (tgt := 81) hx hb (by omega) (by decide) dX6_read_76 (by decide) ?_
  refine lv_aload_n hx hb dX6_read_81 rfl (lv_at hl 1 rfl) ?_
  refine lv_iload_n hx hb dX6_read_82 rfl (lv_at hl 2 rfl) ?_
  refine lv_iload_n hx hb dX6_read_83 rfl (lv_at hl 4 rfl) ?_
  refine lv_iload hx hb dX6_read_84 (lv_at hl 0 rfl) ?_
  refine mu_V (As := [.int (nI i), .int (nI k), .int (nI (lF k (N i) (Bw i) * 6 / 8))]) (rest := []) (wc := [(m0, .inr (3, [.ref mb, .ref ml, .ref mm, .int (nI many), .int (nI 0), .ref mk])), (ml, .inl (T 0, 6, .inl fl)), (mb, .inl (T 0, 1920, .inl fb)), (mm, .inl (T 0, 600, .inl fm))]) (wr := [(mk, .inl (T 0, 320, .inl fk))]) ⟨hx, hb, hml, hown, hts⟩ (c_X6_reads l D T g H.size m0 mb ml mm mk many (nI 0) fb fl fm i (N i) (Bw i) hi ((hMR i hi).1) ((hMR i hi).2) k hk (lF k (N i) (Bw i) * 6 / 8) (hu) (rfl)) (cwV 3 hts gX6_read_X6_reads rfl rfl rfl (by decide +kernel) ⟨Nat.le_of_ble_eq_true rfl, Nat.le_of_ble_eq_true rfl⟩) (va_recv hK hP (ci := 3) (q0 := 4) rfl rfl) hP hD hK hG hS hA [4, 1, 0, 2] [3] rfl (by decide) rfl (by decide) (by decide) ⟨Nat.le_of_ble_eq_true rfl, Nat.le_of_ble_eq_true rfl⟩ rfl hl.1 (Nat.le_of_ble_eq_true rfl) dX6_read_86 rfl (fun u H locs hq4 hP hD hS => ?_)
  obtain ⟨F_3, hu9⟩ : ∃ z, z = u := ⟨_, rfl⟩
  subst hu9
  have hP : va_P D cls [(mk, .inl (T 0, 320, .inl fk)), (m0, .inr (3, [.ref mb, .ref ml, .ref mm, .int (nI (lF k (N i) (Bw i) * 6 / 8)), .int (nI 0), .ref mk])), (ml, .inl (T 0, 6, .inl fl)), (mb, .inl (T 0, 1920, .inl fb)), (mm, .inl (T 0, 600, .inl F_3))] H := hP
  have hD : va_D A [(mk, .inl (T 0, 320, .inl fk)), (m0, .inr (3, [.ref mb, .ref ml, .ref mm, .int (nI (lF k (N i) (Bw i) * 6 / 8)), .int (nI 0), .ref mk])), (ml, .inl (T 0, 6, .inl fl)), (mb, .inl (T 0, 1920, .inl fb)), (mm, .inl (T 0, 600, .inl F_3))] := hD
  have hp1 : MD F_3 (lF k (N i) (Bw i) * 6 / 8) (outB (lwF k (N i) (Bw i))) := hq4
  refine W.eq (g2 := F0 m 89 ls []) rfl ?_
  refine lv_aload_n hx hb dX6_read_89 rfl (lv_at hl 1 rfl) ?_
  refine lv_iload_n hx hb dX6_read_90 rfl (lv_at hl 3 rfl) ?_
  refine mu_V (As := [.int (nI j)]) (rest := []) (wc := [(m0, .inr (3, [.ref mb, .ref ml, .ref mm, .int (nI (lF k (N i) (Bw i) * 6 / 8)), .int (nI 0), .ref mk])), (mb, .inl (T 0, 1920, .inl fb)), (ml, .inl (T 0, 6, .inl fl)), (mm, .inl (T 0, 600, .inl F_3))]) (wr := [(mk, .inl (T 0, 320, .inl fk))]) ⟨hx, hb, hml, hown, hts⟩ (c_X6_becomes l D T g H.size m0 mb ml mm mk (lF k (N i) (Bw i) * 6 / 8) (nI 0) fb fl F_3 j (outB (lwF k (N i) (Bw i))) hj (hp1) (by omega)) (cwV 1 hts gX6_read_X6_becomes rfl rfl rfl (by decide +kernel) ⟨Nat.le_of_ble_eq_true rfl, Nat.le_of_ble_eq_true rfl⟩) (va_recv hK hP (ci := 3) (q0 := 1) rfl rfl) hP hD hK hG hS hA [1, 3, 2, 4] [0] rfl (by decide) rfl (by decide) (by decide) ⟨Nat.le_of_ble_eq_true rfl, Nat.le_of_ble_eq_true rfl⟩ rfl hl.1 (Nat.le_of_ble_eq_true rfl) dX6_read_91 rfl (fun u H locs hq6 hP hD hS => ?_)
  obtain ⟨F_5, hu9⟩ : ∃ z, z = u := ⟨_, rfl⟩
  subst hu9
  have hP : va_P D cls [(mk, .inl (T 0, 320, .inl fk)), (m0, .inr (3, [.ref mb, .ref ml, .ref mm, .int (nI (lF k (N i) (Bw i) * 6 / 8)), .int (nI 0), .ref mk])), (mb, .inl (T 0, 1920, .inl F_5)), (ml, .inl (T 0, 6, .inl (upd fl j (nI (lF k (N i) (Bw i) * 6 / 8))))), (mm, .inl (T 0, 600, .inl F_3))] H := hP
  have hD : va_D A [(mk, .inl (T 0, 320, .inl fk)), (m0, .inr (3, [.ref mb, .ref ml, .ref mm, .int (nI (lF k (N i) (Bw i) * 6 / 8)), .int (nI 0), .ref mk])), (mb, .inl (T 0, 1920, .inl F_5)), (ml, .inl (T 0, 6, .inl (upd fl j (nI (lF k (N i) (Bw i) * 6 / 8))))), (mm, .inl (T 0, 600, .inl F_3))] := hD
  have hp2 : RW F_5 j (lF k (N i) (Bw i) * 6 / 8) (outB (lwF k (N i) (Bw i))) ∧ ∀ q, q < 320 * j ∨ 320 * j + 320 ≤ q → F_5 q = fb q := hq6
  refine W.eq (g2 := F0 m 94 ls [.int (nI (lF k (N i) (Bw i) * 6 / 8))]) rfl ?_
  have hP9 := hP.sub (ws' := [(m0, .inr (3, [.ref mb, .ref ml, .ref mm, .int (nI (lF k (N i) (Bw i) * 6 / 8)), .int (nI 0), .ref mk])), (mb, .inl (T 0, 1920, .inl F_5)), (ml, .inl (T 0, 6, .inl (upd fl j (nI (lF k (N i) (Bw i) * 6 / 8))))), (mm, .inl (T 0, 600, .inl F_3)), (mk, .inl (T 0, 320, .inl fk))]) [1, 2, 3, 4, 0] rfl
  have hD9 := hD.sub (ws' := [(m0, .inr (3, [.ref mb, .ref ml, .ref mm, .int (nI (lF k (N i) (Bw i) * 6 / 8)), .int (nI 0), .ref mk])), (mb, .inl (T 0, 1920, .inl F_5)), (ml, .inl (T 0, 6, .inl (upd fl j (nI (lF k (N i) (Bw i) * 6 / 8))))), (mm, .inl (T 0, 600, .inl F_3)), (mk, .inl (T 0, 320, .inl fk))]) [1, 2, 3, 4, 0] (by decide) rfl
  exact W.iret (v := (nI (lF k (N i) (Bw i) * 6 / 8))) hx hb hr (fun t ht hW => ⟨⟨((lF k (N i) (Bw i) * 6 / 8), (nI 0), F_5, upd fl j (nI (lF k (N i) (Bw i) * 6 / 8)), F_3, fk), rfl, show (nI 0) = nI 0 ∧ MR (upd fl j (nI (lF k (N i) (Bw i) * 6 / 8))) F_5 (upA N j (lF k (N i) (Bw i) * 6 / 8)) (upA Bw j (outB (lwF k (N i) (Bw i)))) from ⟨rfl, MR_upd hMR pk_us (fun z _ hne => pk_un hne) hp2.1 hp2.2⟩, (by rw [ht]; exact hP9), va_K.moved hW.alike hK, hD9⟩, hS.F ht⟩) hS.2.2 dX6_read_94
set_option maxHeartbeats 4000000 in
set_option maxRecDepth 100000 in
theorem m_look_1 (l : Launch) (D : va_G) (T : Nat → ClassId) (g : Nat → Nat) (sz : Nat) (m0 : Nat) (mb : Nat) (ml : Nat) (mm : Nat) (mk : Nat) (many : Nat) (th : Int32) (fb : Nat → Int32) (fl : Nat → Int32) (fm : Nat → Int32) (fk : Nat → Int32) (N : Nat → Nat) (Bw : Nat → Nat → Nat) (hMR : MR fl fb N Bw) (i : Int32) (hi : i < 0 ∨ nI 5 < i) (x0 : Int32) : MU l yX6_look wsX6_look ({ frames := 60, cells := 0, slots := 0, locals := 3000 } : Room) D T g [.ref m0, .int i, .int x0] [(m0, .inr (3, [.ref mb, .ref ml, .ref mm, .int (nI many), .int th, .ref mk])), (mb, .inl (T 0, 1920, .inl fb)), (ml, .inl (T 0, 6, .inl fl)), (mm, .inl (T 0, 600, .inl fm)), (mk, .inl (T 0, 320, .inl fk))] sz (fun u : Nat × Int32 × (Nat → Int32) × (Nat → Int32) × (Nat → Int32) × (Nat → Int32) => some (.int (nI 0))) (fun u : Nat × Int32 × (Nat → Int32) × (Nat → Int32) × (Nat → Int32) × (Nat → Int32) => u.2.1 = nI 1 ∧ MR u.2.2.2.1 u.2.2.1 (N) (Bw)) (fun u : Nat × Int32 × (Nat → Int32) × (Nat → Int32) × (Nat → Int32) × (Nat → Int32) => [(m0, .inr (3, [.ref mb, .ref ml, .ref mm, .int (nI u.1), .int u.2.1, .ref mk])), (mb, .inl (T 0, 1920, .inl u.2.2.1)), (ml, .inl (T 0, 6, .inl u.2.2.2.1)), (mm, .inl (T 0, 600, .inl u.2.2.2.2.1)), (mk, .inl (T 0, 320, .inl u.2.2.2.2.2))]) 0 0 := by
  refine Met.ofW (cc := cX6_look) (maxL := 3) (ret := (some .int)) (by decide) rfl ?_
  intro p e s m args below meth c s₁ B hml hv
  obtain ⟨rfl, hsz, hP, hK, hD0, hG⟩ := hv
  have hx := B.exec
  have hb := B.bytes
  have hr := B.returns
  have hts := atoms_spec (ws := wsX6_look) B.pre
  have hown : s.vm.findClass RX6 = some m.cls := findClass_of_methodNamed B.named
  have hlocks := B.notSynchronized
  subst hsz
  have hD := hD0.self (sz := s.heap.size)
  generalize hAe : va_A [(m0, .inr (3, [.ref mb, .ref ml, .ref mm, .int (nI many), .int th, .ref mk])), (mb, .inl (T 0, 1920, .inl fb)), (ml, .inl (T 0, 6, .inl fl)), (mm, .inl (T 0, 600, .inl fm)), (mk, .inl (T 0, 320, .inl fk))] s.heap.size = A at hD hG ⊢
  have hA : ∀ q : Nat, s.heap.size ≤ q → A q := fun q h => by rw [← hAe]; exact Or.inr h
  have hS : va_S A s.heap s.heap [] := va_S.rf
  have hP : va_P D cls [(m0, .inr (3, [.ref mb, .ref ml, .ref mm, .int (nI many), .int th, .ref mk])), (mb, .inl (T 0, 1920, .inl fb)), (ml, .inl (T 0, 6, .inl fl)), (mm, .inl (T 0, 600, .inl fm)), (mk, .inl (T 0, 320, .inl fk))] s.heap := hP
  have hl := lv_entry ([.ref m0, .int i, .int x0]) (n := 3) (Nat.le_of_ble_eq_true rfl)
  rw [lg_entry_eq]
  generalize (lg_sl ([.ref m0, .int i, .int x0]) ++ List.replicate (3 - (lg_sl ([.ref m0, .int i, .int x0])).length) Slot.unset).toArray = ls at hl ⊢
  have hl : lv_has ls 3 [(0, .ref m0), (1, .int i), (2, .int x0)] := hl
  refine lv_aload_n hx hb dX6_look_0 rfl (lv_at hl 0 rfl) ?_
  refine lv_aload_n hx hb dX6_look_1 rfl (lv_at hl 0 rfl) ?_
  refine lv_iload_n hx hb dX6_look_2 rfl (lv_at hl 1 rfl) ?_
  refine ro_V (As := [.int i]) (rest := [.ref m0]) (wc := []) (r := .int (nI 0)) ⟨hx, hb, hml, hown, hts⟩ (c_X6_isRow_n l D T g m0 i hi) (cwV 1 hts gX6_look_X6_isRow rfl rfl rfl (by decide +kernel) ⟨Nat.le_of_ble_eq_true rfl, Nat.le_of_ble_eq_true rfl⟩) (va_recv hK hP (ci := 3) (q0 := 0) rfl rfl) hP hK hG hS [] rfl ⟨Nat.zero_le _, Nat.zero_le _⟩ rfl hl.1 (Nat.le_of_ble_eq_true rfl) dX6_look_3 rfl ?_
  refine ln_if_ne_f (tgt := 13) hx hb (by omega) (by decide) dX6_look_6 (by decide) ?_
  refine lv_iconst (v := (nI 1)) hx hb dX6_look_9 (by decide +kernel) ?_
  refine lv_goto (tgt := 26) hx hb dX6_look_10 (by decide) ?_
  refine mu_V (As := [.int (nI 1)]) (rest := []) (wc := [(m0, .inr (3, [.ref mb, .ref ml, .ref mm, .int (nI many), .int th, .ref mk]))]) (wr := [(mb, .inl (T 0, 1920, .inl fb)), (ml, .inl (T 0, 6, .inl fl)), (mm, .inl (T 0, 600, .inl fm)), (mk, .inl (T 0, 320, .inl fk))]) ⟨hx, hb, hml, hown, hts⟩ (c_X6_isWrong_p l D T g s.heap.size m0 mb ml mm mk many th 1 (by omega)) (cwV 1 hts gX6_look_X6_isWrong rfl rfl rfl (by decide +kernel) ⟨Nat.le_of_ble_eq_true rfl, Nat.le_of_ble_eq_true rfl⟩) (va_recv hK hP (ci := 3) (q0 := 0) rfl rfl) hP hD hK hG hS hA [0] [1, 2, 3, 4] rfl (by decide) rfl (by decide) (by decide) ⟨Nat.le_of_ble_eq_true rfl, Nat.le_of_ble_eq_true rfl⟩ rfl hl.1 (Nat.le_of_ble_eq_true rfl) dX6_look_26 rfl (fun u H locs hq1 hP hD hS => ?_)
  have hP : va_P D cls [(mb, .inl (T 0, 1920, .inl fb)), (ml, .inl (T 0, 6, .inl fl)), (mm, .inl (T 0, 600, .inl fm)), (mk, .inl (T 0, 320, .inl fk)), (m0, .inr (3, [.ref mb, .ref ml, .ref mm, .int (nI many), .int (nI 1), .ref mk]))] H := hP
  have hD : va_D A [(mb, .inl (T 0, 1920, .inl fb)), (ml, .inl (T 0, 6, .inl fl)), (mm, .inl (T 0, 600, .inl fm)), (mk, .inl (T 0, 320, .inl fk)), (m0, .inr (3, [.ref mb, .ref ml, .ref mm, .int (nI many), .int (nI 1), .ref mk]))] := hD
  refine W.eq (g2 := F0 m 29 ls [.int (nI 1)]) rfl ?_
  refine ln_if_eq_f (tgt := 36) hx hb (by omega) (by decide) dX6_look_29 (by decide) ?_
  refine lv_iconst (v := (nI 0)) hx hb dX6_look_32 (by decide +kernel) ?_
  refine lv_goto (tgt := 42) hx hb dX6_look_33 (by decide) ?_
  have hP9 := hP.sub (ws' := [(m0, .inr (3, [.ref mb, .ref ml, .ref mm, .int (nI many), .int (nI 1), .ref mk])), (mb, .inl (T 0, 1920, .inl fb)), (ml, .inl (T 0, 6, .inl fl)), (mm, .inl (T 0, 600, .inl fm)), (mk, .inl (T 0, 320, .inl fk))]) [4, 0, 1, 2, 3] rfl
  have hD9 := hD.sub (ws' := [(m0, .inr (3, [.ref mb, .ref ml, .ref mm, .int (nI many), .int (nI 1), .ref mk])), (mb, .inl (T 0, 1920, .inl fb)), (ml, .inl (T 0, 6, .inl fl)), (mm, .inl (T 0, 600, .inl fm)), (mk, .inl (T 0, 320, .inl fk))]) [4, 0, 1, 2, 3] (by decide) rfl
  exact W.iret (v := (nI 0)) hx hb hr (fun t ht hW => ⟨⟨(many, (nI 1), fb, fl, fm, fk), rfl, show (nI 1) = nI 1 ∧ MR fl fb (N) (Bw) from ⟨rfl, hMR⟩, (by rw [ht]; exact hP9), va_K.moved hW.alike hK, hD9⟩, hS.F ht⟩) hS.2.2 dX6_look_42
set_option maxHeartbeats 4000000 in
set_option maxRecDepth 100000 in
theorem m_look_2 (l : Launch) (D : va_G) (T : Nat → ClassId) (g : Nat → Nat) (sz : Nat) (m0 : Nat) (mb : Nat) (ml : Nat) (mm : Nat) (mk : Nat) (many : Nat) (th : Int32) (fb : Nat → Int32) (fl : Nat → Int32) (fm : Nat → Int32) (fk : Nat → Int32) (N : Nat → Nat) (Bw : Nat → Nat → Nat) (hMR : MR fl fb N Bw) (i : Nat) (hi : i < 6) (k : Int32) (hk : k < 0 ∨ nI 2 < k) : MU l yX6_look wsX6_look ({ frames := 60, cells := 0, slots := 0, locals := 3000 } : Room) D T g [.ref m0, .int (nI i), .int k] [(m0, .inr (3, [.ref mb, .ref ml, .ref mm, .int (nI many), .int th, .ref mk])), (mb, .inl (T 0, 1920, .inl fb)), (ml, .inl (T 0, 6, .inl fl)), (mm, .inl (T 0, 600, .inl fm)), (mk, .inl (T 0, 320, .inl fk))] sz (fun u : Nat × Int32 × (Nat → Int32) × (Nat → Int32) × (Nat → Int32) × (Nat → Int32) => some (.int (nI 0))) (fun u : Nat × Int32 × (Nat → Int32) × (Nat → Int32) × (Nat → Int32) × (Nat → Int32) => u.2.1 = nI 2 ∧ MR u.2.2.2.1 u.2.2.1 (N) (Bw)) (fun u : Nat × Int32 × (Nat → Int32) × (Nat → Int32) × (Nat → Int32) × (Nat → Int32) => [(m0, .inr (3, [.ref mb, .ref ml, .ref mm, .int (nI u.1), .int u.2.1, .ref mk])), (mb, .inl (T 0, 1920, .inl u.2.2.1)), (ml, .inl (T 0, 6, .inl u.2.2.2.1)), (mm, .inl (T 0, 600, .inl u.2.2.2.2.1)), (mk, .inl (T 0, 320, .inl u.2.2.2.2.2))]) 0 0 := by
  refine Met.ofW (cc := cX6_look) (maxL := 3) (ret := (some .int)) (by decide) rfl ?_
  intro p e s m args below meth c s₁ B hml hv
  obtain ⟨rfl, hsz, hP, hK, hD0, hG⟩ := hv
  have hx := B.exec
  have hb := B.bytes
  have hr := B.returns
  have hts := atoms_spec (ws := wsX6_look) B.pre
  have hown : s.vm.findClass RX6 = some m.cls := findClass_of_methodNamed B.named
  have hlocks := B.notSynchronized
  subst hsz
  have hD := hD0.self (sz := s.heap.size)
  generalize hAe : va_A [(m0, .inr (3, [.ref mb, .ref ml, .ref mm, .int (nI many), .int th, .ref mk])), (mb, .inl (T 0, 1920, .inl fb)), (ml, .inl (T 0, 6, .inl fl)), (mm, .inl (T 0, 600, .inl fm)), (mk, .inl (T 0, 320, .inl fk))] s.heap.size = A at hD hG ⊢
  have hA : ∀ q : Nat, s.heap.size ≤ q → A q := fun q h => by rw [← hAe]; exact Or.inr h
  have hS : va_S A s.heap s.heap [] := va_S.rf
  have hP : va_P D cls [(m0, .inr (3, [.ref mb, .ref ml, .ref mm, .int (nI many), .int th, .ref mk])), (mb, .inl (T 0, 1920, .inl fb)), (ml, .inl (T 0, 6, .inl fl)), (mm, .inl (T 0, 600, .inl fm)), (mk, .inl (T 0, 320, .inl fk))] s.heap := hP
  have hl := lv_entry ([.ref m0, .int (nI i), .int k]) (n := 3) (Nat.le_of_ble_eq_true rfl)
  rw [lg_entry_eq]
  generalize (lg_sl ([.ref m0, .int (nI i), .int k]) ++ List.replicate (3 - (lg_sl ([.ref m0, .int (nI i), .int k])).length) Slot.unset).toArray = ls at hl ⊢
  have hl : lv_has ls 3 [(0, .ref m0), (1, .int (nI i)), (2, .int k)] := hl
  refine lv_aload_n hx hb dX6_look_0 rfl (lv_at hl 0 rfl) ?_
  refine lv_aload_n hx hb dX6_look_1 rfl (lv_at hl 0 rfl) ?_
  refine lv_iload_n hx hb dX6_look_2 rfl (lv_at hl 1 rfl) ?_
  refine ro_V (As := [.int (nI i)]) (rest := [.ref m0]) (wc := []) (r := .int (nI 1)) ⟨hx, hb, hml, hown, hts⟩ (c_X6_isRow_y l D T g m0 i (by omega)) (cwV 1 hts gX6_look_X6_isRow rfl rfl rfl (by decide +kernel) ⟨Nat.le_of_ble_eq_true rfl, Nat.le_of_ble_eq_true rfl⟩) (va_recv hK hP (ci := 3) (q0 := 0) rfl rfl) hP hK hG hS [] rfl ⟨Nat.zero_le _, Nat.zero_le _⟩ rfl hl.1 (Nat.le_of_ble_eq_true rfl) dX6_look_3 rfl ?_
  refine ln_if_ne_t (tgt := 13) hx hb (by omega) (by decide) dX6_look_6 (by decide) ?_
  refine lv_aload_n hx hb dX6_look_13 rfl (lv_at hl 0 rfl) ?_
  refine lv_iload_n hx hb dX6_look_14 rfl (lv_at hl 2 rfl) ?_
  refine ro_V (As := [.int k]) (rest := [.ref m0]) (wc := []) (r := .int (nI 0)) ⟨hx, hb, hml, hown, hts⟩ (c_X6_isKind_n l D T g m0 k hk) (cwV 1 hts gX6_look_X6_isKind rfl rfl rfl (by decide +kernel) ⟨Nat.le_of_ble_eq_true rfl, Nat.le_of_ble_eq_true rfl⟩) (va_recv hK hP (ci := 3) (q0 := 0) rfl rfl) hP hK hG hS [] rfl ⟨Nat.zero_le _, Nat.zero_le _⟩ rfl hl.1 (Nat.le_of_ble_eq_true rfl) dX6_look_15 rfl ?_
  refine ln_if_ne_f (tgt := 25) hx hb (by omega) (by decide) dX6_look_18 (by decide) ?_
  refine lv_iconst (v := (nI 2)) hx hb dX6_look_21 (by decide +kernel) ?_
  refine lv_goto (tgt := 26) hx hb dX6_look_22 (by decide) ?_
  refine mu_V (As := [.int (nI 2)]) (rest := []) (wc := [(m0, .inr (3, [.ref mb, .ref ml, .ref mm, .int (nI many), .int th, .ref mk]))]) (wr := [(mb, .inl (T 0, 1920, .inl fb)), (ml, .inl (T 0, 6, .inl fl)), (mm, .inl (T 0, 600, .inl fm)), (mk, .inl (T 0, 320, .inl fk))]) ⟨hx, hb, hml, hown, hts⟩ (c_X6_isWrong_p l D T g s.heap.size m0 mb ml mm mk many th 2 (by omega)) (cwV 1 hts gX6_look_X6_isWrong rfl rfl rfl (by decide +kernel) ⟨Nat.le_of_ble_eq_true rfl, Nat.le_of_ble_eq_true rfl⟩) (va_recv hK hP (ci := 3) (q0 := 0) rfl rfl) hP hD hK hG hS hA [0] [1, 2, 3, 4] rfl (by decide) rfl (by decide) (by decide) ⟨Nat.le_of_ble_eq_true rfl, Nat.le_of_ble_eq_true rfl⟩ rfl hl.1 (Nat.le_of_ble_eq_true rfl) dX6_look_26 rfl (fun u H locs hq1 hP hD hS => ?_)
  have hP : va_P D cls [(mb, .inl (T 0, 1920, .inl fb)), (ml, .inl (T 0, 6, .inl fl)), (mm, .inl (T 0, 600, .inl fm)), (mk, .inl (T 0, 320, .inl fk)), (m0, .inr (3, [.ref mb, .ref ml, .ref mm, .int (nI many), .int (nI 2), .ref mk]))] H := hP
  have hD : va_D A [(mb, .inl (T 0, 1920, .inl fb)), (ml, .inl (T 0, 6, .inl fl)), (mm, .inl (T 0, 600, .inl fm)), (mk, .inl (T 0, 320, .inl fk)), (m0, .inr (3, [.ref mb, .ref ml, .ref mm, .int (nI many), .int (nI 2), .ref mk]))] := hD
  refine W.eq (g2 := F0 m 29 ls [.int (nI 1)]) rfl ?_
  refine ln_if_eq_f (tgt := 36) hx hb (by omega) (by decide) dX6_look_29 (by decide) ?_
  refine lv_iconst (v := (nI 0)) hx hb dX6_look_32 (by decide +kernel) ?_
  refine lv_goto (tgt := 42) hx hb dX6_look_33 (by decide) ?_
  have hP9 := hP.sub (ws' := [(m0, .inr (3, [.ref mb, .ref ml, .ref mm, .int (nI many), .int (nI 2), .ref mk])), (mb, .inl (T 0, 1920, .inl fb)), (ml, .inl (T 0, 6, .inl fl)), (mm, .inl (T 0, 600, .inl fm)), (mk, .inl (T 0, 320, .inl fk))]) [4, 0, 1, 2, 3] rfl
  have hD9 := hD.sub (ws' := [(m0, .inr (3, [.ref mb, .ref ml, .ref mm, .int (nI many), .int (nI 2), .ref mk])), (mb, .inl (T 0, 1920, .inl fb)), (ml, .inl (T 0, 6, .inl fl)), (mm, .inl (T 0, 600, .inl fm)), (mk, .inl (T 0, 320, .inl fk))]) [4, 0, 1, 2, 3] (by decide) rfl
  exact W.iret (v := (nI 0)) hx hb hr (fun t ht hW => ⟨⟨(many, (nI 2), fb, fl, fm, fk), rfl, show (nI 2) = nI 2 ∧ MR fl fb (N) (Bw) from ⟨rfl, hMR⟩, (by rw [ht]; exact hP9), va_K.moved hW.alike hK, hD9⟩, hS.F ht⟩) hS.2.2 dX6_look_42
set_option maxHeartbeats 4000000 in
set_option maxRecDepth 100000 in
theorem m_letters_1 (l : Launch) (D : va_G) (T : Nat → ClassId) (g : Nat → Nat) (sz : Nat) (m0 : Nat) (mb : Nat) (ml : Nat) (mm : Nat) (mk : Nat) (many : Nat) (th : Int32) (fb : Nat → Int32) (fl : Nat → Int32) (fm : Nat → Int32) (fk : Nat → Int32) (N : Nat → Nat) (Bw : Nat → Nat → Nat) (hMR : MR fl fb N Bw) (i : Int32) (hi : i < 0 ∨ nI 5 < i) (x0 : Int32) : MU l yX6_letters wsX6_letters ({ frames := 60, cells := 0, slots := 0, locals := 3000 } : Room) D T g [.ref m0, .int i, .int x0] [(m0, .inr (3, [.ref mb, .ref ml, .ref mm, .int (nI many), .int th, .ref mk])), (mb, .inl (T 0, 1920, .inl fb)), (ml, .inl (T 0, 6, .inl fl)), (mm, .inl (T 0, 600, .inl fm)), (mk, .inl (T 0, 320, .inl fk))] sz (fun u : Nat × Int32 × (Nat → Int32) × (Nat → Int32) × (Nat → Int32) × (Nat → Int32) => some (.int (nI 0))) (fun u : Nat × Int32 × (Nat → Int32) × (Nat → Int32) × (Nat → Int32) × (Nat → Int32) => u.2.1 = nI 1 ∧ MR u.2.2.2.1 u.2.2.1 (N) (Bw)) (fun u : Nat × Int32 × (Nat → Int32) × (Nat → Int32) × (Nat → Int32) × (Nat → Int32) => [(m0, .inr (3, [.ref mb, .ref ml, .ref mm, .int (nI u.1), .int u.2.1, .ref mk])), (mb, .inl (T 0, 1920, .inl u.2.2.1)), (ml, .inl (T 0, 6, .inl u.2.2.2.1)), (mm, .inl (T 0, 600, .inl u.2.2.2.2.1)), (mk, .inl (T 0, 320, .inl u.2.2.2.2.2))]) 0 0 := by
  refine Met.ofW (cc := cX6_letters) (maxL := 3) (ret := (some .int)) (by decide) rfl ?_
  intro p e s m args below meth c s₁ B hml hv
  obtain ⟨rfl, hsz, hP, hK, hD0, hG⟩ := hv
  have hx := B.exec
  have hb := B.bytes
  have hr := B.returns
  have hts := atoms_spec (ws := wsX6_letters) B.pre
  have hown : s.vm.findClass RX6 = some m.cls := findClass_of_methodNamed B.named
  have hlocks := B.notSynchronized
  subst hsz
  have hD := hD0.self (sz := s.heap.size)
  generalize hAe : va_A [(m0, .inr (3, [.ref mb, .ref ml, .ref mm, .int (nI many), .int th, .ref mk])), (mb, .inl (T 0, 1920, .inl fb)), (ml, .inl (T 0, 6, .inl fl)), (mm, .inl (T 0, 600, .inl fm)), (mk, .inl (T 0, 320, .inl fk))] s.heap.size = A at hD hG ⊢
  have hA : ∀ q : Nat, s.heap.size ≤ q → A q := fun q h => by rw [← hAe]; exact Or.inr h
  have hS : va_S A s.heap s.heap [] := va_S.rf
  have hP : va_P D cls [(m0, .inr (3, [.ref mb, .ref ml, .ref mm, .int (nI many), .int th, .ref mk])), (mb, .inl (T 0, 1920, .inl fb)), (ml, .inl (T 0, 6, .inl fl)), (mm, .inl (T 0, 600, .inl fm)), (mk, .inl (T 0, 320, .inl fk))] s.heap := hP
  have hl := lv_entry ([.ref m0, .int i, .int x0]) (n := 3) (Nat.le_of_ble_eq_true rfl)
  rw [lg_entry_eq]
  generalize (lg_sl ([.ref m0, .int i, .int x0]) ++ List.replicate (3 - (lg_sl ([.ref m0, .int i, .int x0])).length) Slot.unset).toArray = ls at hl ⊢
  have hl : lv_has ls 3 [(0, .ref m0), (1, .int i), (2, .int x0)] := hl
  refine lv_aload_n hx hb dX6_letters_0 rfl (lv_at hl 0 rfl) ?_
  refine lv_aload_n hx hb dX6_letters_1 rfl (lv_at hl 0 rfl) ?_
  refine lv_iload_n hx hb dX6_letters_2 rfl (lv_at hl 1 rfl) ?_
  refine ro_V (As := [.int i]) (rest := [.ref m0]) (wc := []) (r := .int (nI 0)) ⟨hx, hb, hml, hown, hts⟩ (c_X6_isRow_n l D T g m0 i hi) (cwV 1 hts gX6_letters_X6_isRow rfl rfl rfl (by decide +kernel) ⟨Nat.le_of_ble_eq_true rfl, Nat.le_of_ble_eq_true rfl⟩) (va_recv hK hP (ci := 3) (q0 := 0) rfl rfl) hP hK hG hS [] rfl ⟨Nat.zero_le _, Nat.zero_le _⟩ rfl hl.1 (Nat.le_of_ble_eq_true rfl) dX6_letters_3 rfl ?_
  refine ln_if_ne_f (tgt := 13) hx hb (by omega) (by decide) dX6_letters_6 (by decide) ?_
  refine lv_iconst (v := (nI 1)) hx hb dX6_letters_9 (by decide +kernel) ?_
  refine lv_goto (tgt := 26) hx hb dX6_letters_10 (by decide) ?_
  refine mu_V (As := [.int (nI 1)]) (rest := []) (wc := [(m0, .inr (3, [.ref mb, .ref ml, .ref mm, .int (nI many), .int th, .ref mk]))]) (wr := [(mb, .inl (T 0, 1920, .inl fb)), (ml, .inl (T 0, 6, .inl fl)), (mm, .inl (T 0, 600, .inl fm)), (mk, .inl (T 0, 320, .inl fk))]) ⟨hx, hb, hml, hown, hts⟩ (c_X6_isWrong_p l D T g s.heap.size m0 mb ml mm mk many th 1 (by omega)) (cwV 1 hts gX6_letters_X6_isWrong rfl rfl rfl (by decide +kernel) ⟨Nat.le_of_ble_eq_true rfl, Nat.le_of_ble_eq_true rfl⟩) (va_recv hK hP (ci := 3) (q0 := 0) rfl rfl) hP hD hK hG hS hA [0] [1, 2, 3, 4] rfl (by decide) rfl (by decide) (by decide) ⟨Nat.le_of_ble_eq_true rfl, Nat.le_of_ble_eq_true rfl⟩ rfl hl.1 (Nat.le_of_ble_eq_true rfl) dX6_letters_26 rfl (fun u H locs hq1 hP hD hS => ?_)
  have hP : va_P D cls [(mb, .inl (T 0, 1920, .inl fb)), (ml, .inl (T 0, 6, .inl fl)), (mm, .inl (T 0, 600, .inl fm)), (mk, .inl (T 0, 320, .inl fk)), (m0, .inr (3, [.ref mb, .ref ml, .ref mm, .int (nI many), .int (nI 1), .ref mk]))] H := hP
  have hD : va_D A [(mb, .inl (T 0, 1920, .inl fb)), (ml, .inl (T 0, 6, .inl fl)), (mm, .inl (T 0, 600, .inl fm)), (mk, .inl (T 0, 320, .inl fk)), (m0, .inr (3, [.ref mb, .ref ml, .ref mm, .int (nI many), .int (nI 1), .ref mk]))] := hD
  refine W.eq (g2 := F0 m 29 ls [.int (nI 1)]) rfl ?_
  refine ln_if_eq_f (tgt := 36) hx hb (by omega) (by decide) dX6_letters_29 (by decide) ?_
  refine lv_iconst (v := (nI 0)) hx hb dX6_letters_32 (by decide +kernel) ?_
  refine lv_goto (tgt := 42) hx hb dX6_letters_33 (by decide) ?_
  have hP9 := hP.sub (ws' := [(m0, .inr (3, [.ref mb, .ref ml, .ref mm, .int (nI many), .int (nI 1), .ref mk])), (mb, .inl (T 0, 1920, .inl fb)), (ml, .inl (T 0, 6, .inl fl)), (mm, .inl (T 0, 600, .inl fm)), (mk, .inl (T 0, 320, .inl fk))]) [4, 0, 1, 2, 3] rfl
  have hD9 := hD.sub (ws' := [(m0, .inr (3, [.ref mb, .ref ml, .ref mm, .int (nI many), .int (nI 1), .ref mk])), (mb, .inl (T 0, 1920, .inl fb)), (ml, .inl (T 0, 6, .inl fl)), (mm, .inl (T 0, 600, .inl fm)), (mk, .inl (T 0, 320, .inl fk))]) [4, 0, 1, 2, 3] (by decide) rfl
  exact W.iret (v := (nI 0)) hx hb hr (fun t ht hW => ⟨⟨(many, (nI 1), fb, fl, fm, fk), rfl, show (nI 1) = nI 1 ∧ MR fl fb (N) (Bw) from ⟨rfl, hMR⟩, (by rw [ht]; exact hP9), va_K.moved hW.alike hK, hD9⟩, hS.F ht⟩) hS.2.2 dX6_letters_42
set_option maxHeartbeats 4000000 in
set_option maxRecDepth 100000 in
theorem m_letters_2 (l : Launch) (D : va_G) (T : Nat → ClassId) (g : Nat → Nat) (sz : Nat) (m0 : Nat) (mb : Nat) (ml : Nat) (mm : Nat) (mk : Nat) (many : Nat) (th : Int32) (fb : Nat → Int32) (fl : Nat → Int32) (fm : Nat → Int32) (fk : Nat → Int32) (N : Nat → Nat) (Bw : Nat → Nat → Nat) (hMR : MR fl fb N Bw) (i : Nat) (hi : i < 6) (k : Int32) (hk : k < 0 ∨ nI 2 < k) : MU l yX6_letters wsX6_letters ({ frames := 60, cells := 0, slots := 0, locals := 3000 } : Room) D T g [.ref m0, .int (nI i), .int k] [(m0, .inr (3, [.ref mb, .ref ml, .ref mm, .int (nI many), .int th, .ref mk])), (mb, .inl (T 0, 1920, .inl fb)), (ml, .inl (T 0, 6, .inl fl)), (mm, .inl (T 0, 600, .inl fm)), (mk, .inl (T 0, 320, .inl fk))] sz (fun u : Nat × Int32 × (Nat → Int32) × (Nat → Int32) × (Nat → Int32) × (Nat → Int32) => some (.int (nI 0))) (fun u : Nat × Int32 × (Nat → Int32) × (Nat → Int32) × (Nat → Int32) × (Nat → Int32) => u.2.1 = nI 2 ∧ MR u.2.2.2.1 u.2.2.1 (N) (Bw)) (fun u : Nat × Int32 × (Nat → Int32) × (Nat → Int32) × (Nat → Int32) × (Nat → Int32) => [(m0, .inr (3, [.ref mb, .ref ml, .ref mm, .int (nI u.1), .int u.2.1, .ref mk])), (mb, .inl (T 0, 1920, .inl u.2.2.1)), (ml, .inl (T 0, 6, .inl u.2.2.2.1)), (mm, .inl (T 0, 600, .inl u.2.2.2.2.1)), (mk, .inl (T 0, 320, .inl u.2.2.2.2.2))]) 0 0 := by
  refine Met.ofW (cc := cX6_letters) (maxL := 3) (ret := (some .int)) (by decide) rfl ?_
  intro p e s m args below meth c s₁ B hml hv
  obtain ⟨rfl, hsz, hP, hK, hD0, hG⟩ := hv
  have hx := B.exec
  have hb := B.bytes
  have hr := B.returns
  have hts := atoms_spec (ws := wsX6_letters) B.pre
  have hown : s.vm.findClass RX6 = some m.cls := findClass_of_methodNamed B.named
  have hlocks := B.notSynchronized
  subst hsz
  have hD := hD0.self (sz := s.heap.size)
  generalize hAe : va_A [(m0, .inr (3, [.ref mb, .ref ml, .ref mm, .int (nI many), .int th, .ref mk])), (mb, .inl (T 0, 1920, .inl fb)), (ml, .inl (T 0, 6, .inl fl)), (mm, .inl (T 0, 600, .inl fm)), (mk, .inl (T 0, 320, .inl fk))] s.heap.size = A at hD hG ⊢
  have hA : ∀ q : Nat, s.heap.size ≤ q → A q := fun q h => by rw [← hAe]; exact Or.inr h
  have hS : va_S A s.heap s.heap [] := va_S.rf
  have hP : va_P D cls [(m0, .inr (3, [.ref mb, .ref ml, .ref mm, .int (nI many), .int th, .ref mk])), (mb, .inl (T 0, 1920, .inl fb)), (ml, .inl (T 0, 6, .inl fl)), (mm, .inl (T 0, 600, .inl fm)), (mk, .inl (T 0, 320, .inl fk))] s.heap := hP
  have hl := lv_entry ([.ref m0, .int (nI i), .int k]) (n := 3) (Nat.le_of_ble_eq_true rfl)
  rw [lg_entry_eq]
  generalize (lg_sl ([.ref m0, .int (nI i), .int k]) ++ List.replicate (3 - (lg_sl ([.ref m0, .int (nI i), .int k])).length) Slot.unset).toArray = ls at hl ⊢
  have hl : lv_has ls 3 [(0, .ref m0), (1, .int (nI i)), (2, .int k)] := hl
  refine lv_aload_n hx hb dX6_letters_0 rfl (lv_at hl 0 rfl) ?_
  refine lv_aload_n hx hb dX6_letters_1 rfl (lv_at hl 0 rfl) ?_
  refine lv_iload_n hx hb dX6_letters_2 rfl (lv_at hl 1 rfl) ?_
  refine ro_V (As := [.int (nI i)]) (rest := [.ref m0]) (wc := []) (r := .int (nI 1)) ⟨hx, hb, hml, hown, hts⟩ (c_X6_isRow_y l D T g m0 i (by omega)) (cwV 1 hts gX6_letters_X6_isRow rfl rfl rfl (by decide +kernel) ⟨Nat.le_of_ble_eq_true rfl, Nat.le_of_ble_eq_true rfl⟩) (va_recv hK hP (ci := 3) (q0 := 0) rfl rfl) hP hK hG hS [] rfl ⟨Nat.zero_le _, Nat.zero_le _⟩ rfl hl.1 (Nat.le_of_ble_eq_true rfl) dX6_letters_3 rfl ?_
  refine ln_if_ne_t (tgt := 13) hx hb (by omega) (by decide) dX6_letters_6 (by decide) ?_
  refine lv_aload_n hx hb dX6_letters_13 rfl (lv_at hl 0 rfl) ?_
  refine lv_iload_n hx hb dX6_letters_14 rfl (lv_at hl 2 rfl) ?_
  refine ro_V (As := [.int k]) (rest := [.ref m0]) (wc := []) (r := .int (nI 0)) ⟨hx, hb, hml, hown, hts⟩ (c_X6_isKind_n l D T g m0 k hk) (cwV 1 hts gX6_letters_X6_isKind rfl rfl rfl (by decide +kernel) ⟨Nat.le_of_ble_eq_true rfl, Nat.le_of_ble_eq_true rfl⟩) (va_recv hK hP (ci := 3) (q0 := 0) rfl rfl) hP hK hG hS [] rfl ⟨Nat.zero_le _, Nat.zero_le _⟩ rfl hl.1 (Nat.le_of_ble_eq_true rfl) dX6_letters_15 rfl ?_
  refine ln_if_ne_f (tgt := 25) hx hb (by omega) (by decide) dX6_letters_18 (by decide) ?_
  refine lv_iconst (v := (nI 2)) hx hb dX6_letters_21 (by decide +kernel) ?_
  refine lv_goto (tgt := 26) hx hb dX6_letters_22 (by decide) ?_
  refine mu_V (As := [.int (nI 2)]) (rest := []) (wc := [(m0, .inr (3, [.ref mb, .ref ml, .ref mm, .int (nI many), .int th, .ref mk]))]) (wr := [(mb, .inl (T 0, 1920, .inl fb)), (ml, .inl (T 0, 6, .inl fl)), (mm, .inl (T 0, 600, .inl fm)), (mk, .inl (T 0, 320, .inl fk))]) ⟨hx, hb, hml, hown, hts⟩ (c_X6_isWrong_p l D T g s.heap.size m0 mb ml mm mk many th 2 (by omega)) (cwV 1 hts gX6_letters_X6_isWrong rfl rfl rfl (by decide +kernel) ⟨Nat.le_of_ble_eq_true rfl, Nat.le_of_ble_eq_true rfl⟩) (va_recv hK hP (ci := 3) (q0 := 0) rfl rfl) hP hD hK hG hS hA [0] [1, 2, 3, 4] rfl (by decide) rfl (by decide) (by decide) ⟨Nat.le_of_ble_eq_true rfl, Nat.le_of_ble_eq_true rfl⟩ rfl hl.1 (Nat.le_of_ble_eq_true rfl) dX6_letters_26 rfl (fun u H locs hq1 hP hD hS => ?_)
  have hP : va_P D cls [(mb, .inl (T 0, 1920, .inl fb)), (ml, .inl (T 0, 6, .inl fl)), (mm, .inl (T 0, 600, .inl fm)), (mk, .inl (T 0, 320, .inl fk)), (m0, .inr (3, [.ref mb, .ref ml, .ref mm, .int (nI many), .int (nI 2), .ref mk]))] H := hP
  have hD : va_D A [(mb, .inl (T 0, 1920, .inl fb)), (ml, .inl (T 0, 6, .inl fl)), (mm, .inl (T 0, 600, .inl fm)), (mk, .inl (T 0, 320, .inl fk)), (m0, .inr (3, [.ref mb, .ref ml, .ref mm, .int (nI many), .int (nI 2), .ref mk]))] := hD
  refine W.eq (g2 := F0 m 29 ls [.int (nI 1)]) rfl ?_
  refine ln_if_eq_f (tgt := 36) hx hb (by omega) (by decide) dX6_letters_29 (by decide) ?_
  refine lv_iconst (v := (nI 0)) hx hb dX6_letters_32 (by decide +kernel) ?_
  refine lv_goto (tgt := 42) hx hb dX6_letters_33 (by decide) ?_
  have hP9 := hP.sub (ws' := [(m0, .inr (3, [.ref mb, .ref ml, .ref mm, .int (nI many), .int (nI 2), .ref mk])), (mb, .inl (T 0, 1920, .inl fb)), (ml, .inl (T 0, 6, .inl fl)), (mm, .inl (T 0, 600, .inl fm)), (mk, .inl (T 0, 320, .inl fk))]) [4, 0, 1, 2, 3] rfl
  have hD9 := hD.sub (ws' := [(m0, .inr (3, [.ref mb, .ref ml, .ref mm, .int (nI many), .int (nI 2), .ref mk])), (mb, .inl (T 0, 1920, .inl fb)), (ml, .inl (T 0, 6, .inl fl)), (mm, .inl (T 0, 600, .inl fm)), (mk, .inl (T 0, 320, .inl fk))]) [4, 0, 1, 2, 3] (by decide) rfl
  exact W.iret (v := (nI 0)) hx hb hr (fun t ht hW => ⟨⟨(many, (nI 2), fb, fl, fm, fk), rfl, show (nI 2) = nI 2 ∧ MR fl fb (N) (Bw) from ⟨rfl, hMR⟩, (by rw [ht]; exact hP9), va_K.moved hW.alike hK, hD9⟩, hS.F ht⟩) hS.2.2 dX6_letters_42
set_option maxHeartbeats 4000000 in
set_option maxRecDepth 100000 in
theorem m_isWritten_1 (l : Launch) (D : va_G) (T : Nat → ClassId) (g : Nat → Nat) (sz : Nat) (m0 : Nat) (mb : Nat) (ml : Nat) (mm : Nat) (mk : Nat) (many : Nat) (th : Int32) (fb : Nat → Int32) (fl : Nat → Int32) (fm : Nat → Int32) (fk : Nat → Int32) (N : Nat → Nat) (Bw : Nat → Nat → Nat) (hMR : MR fl fb N Bw) (i : Int32) (hi : i < 0 ∨ nI 5 < i) (x0 : Int32) : MU l yX6_isWritten wsX6_isWritten ({ frames := 60, cells := 0, slots := 0, locals := 3000 } : Room) D T g [.ref m0, .int i, .int x0] [(m0, .inr (3, [.ref mb, .ref ml, .ref mm, .int (nI many), .int th, .ref mk])), (mb, .inl (T 0, 1920, .inl fb)), (ml, .inl (T 0, 6, .inl fl)), (mm, .inl (T 0, 600, .inl fm)), (mk, .inl (T 0, 320, .inl fk))] sz (fun u : Nat × Int32 × (Nat → Int32) × (Nat → Int32) × (Nat → Int32) × (Nat → Int32) => some (.int (nI 0))) (fun u : Nat × Int32 × (Nat → Int32) × (Nat → Int32) × (Nat → Int32) × (Nat → Int32) => u.2.1 = nI 1 ∧ MR u.2.2.2.1 u.2.2.1 (N) (Bw)) (fun u : Nat × Int32 × (Nat → Int32) × (Nat → Int32) × (Nat → Int32) × (Nat → Int32) => [(m0, .inr (3, [.ref mb, .ref ml, .ref mm, .int (nI u.1), .int u.2.1, .ref mk])), (mb, .inl (T 0, 1920, .inl u.2.2.1)), (ml, .inl (T 0, 6, .inl u.2.2.2.1)), (mm, .inl (T 0, 600, .inl u.2.2.2.2.1)), (mk, .inl (T 0, 320, .inl u.2.2.2.2.2))]) 0 0 := by
  refine Met.ofW (cc := cX6_isWritten) (maxL := 5) (ret := (some .boolean)) (by decide) rfl ?_
  intro p e s m args below meth c s₁ B hml hv
  obtain ⟨rfl, hsz, hP, hK, hD0, hG⟩ := hv
  have hx := B.exec
  have hb := B.bytes
  have hr := B.returns
  have hts := atoms_spec (ws := wsX6_isWritten) B.pre
  have hown : s.vm.findClass RX6 = some m.cls := findClass_of_methodNamed B.named
  have hlocks := B.notSynchronized
  subst hsz
  have hD := hD0.self (sz := s.heap.size)
  generalize hAe : va_A [(m0, .inr (3, [.ref mb, .ref ml, .ref mm, .int (nI many), .int th, .ref mk])), (mb, .inl (T 0, 1920, .inl fb)), (ml, .inl (T 0, 6, .inl fl)), (mm, .inl (T 0, 600, .inl fm)), (mk, .inl (T 0, 320, .inl fk))] s.heap.size = A at hD hG ⊢
  have hA : ∀ q : Nat, s.heap.size ≤ q → A q := fun q h => by rw [← hAe]; exact Or.inr h
  have hS : va_S A s.heap s.heap [] := va_S.rf
  have hP : va_P D cls [(m0, .inr (3, [.ref mb, .ref ml, .ref mm, .int (nI many), .int th, .ref mk])), (mb, .inl (T 0, 1920, .inl fb)), (ml, .inl (T 0, 6, .inl fl)), (mm, .inl (T 0, 600, .inl fm)), (mk, .inl (T 0, 320, .inl fk))] s.heap := hP
  have hl := lv_entry ([.ref m0, .int i, .int x0]) (n := 5) (Nat.le_of_ble_eq_true rfl)
  rw [lg_entry_eq]
  generalize (lg_sl ([.ref m0, .int i, .int x0]) ++ List.replicate (5 - (lg_sl ([.ref m0, .int i, .int x0])).length) Slot.unset).toArray = ls at hl ⊢
  have hl : lv_has ls 5 [(0, .ref m0), (1, .int i), (2, .int x0)] := hl
  refine lv_aload_n hx hb dX6_isWritten_0 rfl (lv_at hl 0 rfl) ?_
  refine lv_aload_n hx hb dX6_isWritten_1 rfl (lv_at hl 0 rfl) ?_
  refine lv_iload_n hx hb dX6_isWritten_2 rfl (lv_at hl 1 rfl) ?_
  refine ro_V (As := [.int i]) (rest := [.ref m0]) (wc := []) (r := .int (nI 0)) ⟨hx, hb, hml, hown, hts⟩ (c_X6_isRow_n l D T g m0 i hi) (cwV 1 hts gX6_isWritten_X6_isRow rfl rfl rfl (by decide +kernel) ⟨Nat.le_of_ble_eq_true rfl, Nat.le_of_ble_eq_true rfl⟩) (va_recv hK hP (ci := 3) (q0 := 0) rfl rfl) hP hK hG hS [] rfl ⟨Nat.zero_le _, Nat.zero_le _⟩ rfl hl.1 (Nat.le_of_ble_eq_true rfl) dX6_isWritten_3 rfl ?_
  refine ln_if_ne_f (tgt := 13) hx hb (by omega) (by decide) dX6_isWritten_6 (by decide) ?_
  refine lv_iconst (v := (nI 1)) hx hb dX6_isWritten_9 (by decide +kernel) ?_
  refine lv_goto (tgt := 26) hx hb dX6_isWritten_10 (by decide) ?_
  refine mu_V (As := [.int (nI 1)]) (rest := []) (wc := [(m0, .inr (3, [.ref mb, .ref ml, .ref mm, .int (nI many), .int th, .ref mk]))]) (wr := [(mb, .inl (T 0, 1920, .inl fb)), (ml, .inl (T 0, 6, .inl fl)), (mm, .inl (T 0, 600, .inl fm)), (mk, .inl (T 0, 320, .inl fk))]) ⟨hx, hb, hml, hown, hts⟩ (c_X6_isWrong_p l D T g s.heap.size m0 mb ml mm mk many th 1 (by omega)) (cwV 1 hts gX6_isWritten_X6_isWrong rfl rfl rfl (by decide +kernel) ⟨Nat.le_of_ble_eq_true rfl, Nat.le_of_ble_eq_true rfl⟩) (va_recv hK hP (ci := 3) (q0 := 0) rfl rfl) hP hD hK hG hS hA [0] [1, 2, 3, 4] rfl (by decide) rfl (by decide) (by decide) ⟨Nat.le_of_ble_eq_true rfl, Nat.le_of_ble_eq_true rfl⟩ rfl hl.1 (Nat.le_of_ble_eq_true rfl) dX6_isWritten_26 rfl (fun u H locs hq1 hP hD hS => ?_)
  have hP : va_P D cls [(mb, .inl (T 0, 1920, .inl fb)), (ml, .inl (T 0, 6, .inl fl)), (mm, .inl (T 0, 600, .inl fm)), (mk, .inl (T 0, 320, .inl fk)), (m0, .inr (3, [.ref mb, .ref ml, .ref mm, .int (nI many), .int (nI 1), .ref mk]))] H := hP
  have hD : va_D A [(mb, .inl (T 0, 1920, .inl fb)), (ml, .inl (T 0, 6, .inl fl)), (mm, .inl (T 0, 600, .inl fm)), (mk, .inl (T 0, 320, .inl fk)), (m0, .inr (3, [.ref mb, .ref ml, .ref mm, .int (nI many), .int (nI 1), .ref mk]))] := hD
  refine W.eq (g2 := F0 m 29 ls [.int (nI 1)]) rfl ?_
  refine ln_if_eq_f (tgt := 34) hx hb (by omega) (by decide) dX6_isWritten_29 (by decide) ?_
  refine lv_iconst (v := (nI 0)) hx hb dX6_isWritten_32 (by decide +kernel) ?_
  have hP9 := hP.sub (ws' := [(m0, .inr (3, [.ref mb, .ref ml, .ref mm, .int (nI many), .int (nI 1), .ref mk])), (mb, .inl (T 0, 1920, .inl fb)), (ml, .inl (T 0, 6, .inl fl)), (mm, .inl (T 0, 600, .inl fm)), (mk, .inl (T 0, 320, .inl fk))]) [4, 0, 1, 2, 3] rfl
  have hD9 := hD.sub (ws' := [(m0, .inr (3, [.ref mb, .ref ml, .ref mm, .int (nI many), .int (nI 1), .ref mk])), (mb, .inl (T 0, 1920, .inl fb)), (ml, .inl (T 0, 6, .inl fl)), (mm, .inl (T 0, 600, .inl fm)), (mk, .inl (T 0, 320, .inl fk))]) [4, 0, 1, 2, 3] (by decide) rfl
  exact W.zret (v := (nI 0)) (ty := .boolean) hx hb hr (rfl) (fun t ht hW => ⟨⟨(many, (nI 1), fb, fl, fm, fk), rfl, show (nI 1) = nI 1 ∧ MR fl fb (N) (Bw) from ⟨rfl, hMR⟩, (by rw [ht]; exact hP9), va_K.moved hW.alike hK, hD9⟩, hS.F ht⟩) hS.2.2 dX6_isWritten_33
set_option maxHeartbeats 4000000 in
set_option maxRecDepth 100000 in
theorem m_isWritten_2 (l : Launch) (D : va_G) (T : Nat → ClassId) (g : Nat → Nat) (sz : Nat) (m0 : Nat) (mb : Nat) (ml : Nat) (mm : Nat) (mk : Nat) (many : Nat) (th : Int32) (fb : Nat → Int32) (fl : Nat → Int32) (fm : Nat → Int32) (fk : Nat → Int32) (N : Nat → Nat) (Bw : Nat → Nat → Nat) (hMR : MR fl fb N Bw) (i : Nat) (hi : i < 6) (k : Int32) (hk : k < 0 ∨ nI 2 < k) : MU l yX6_isWritten wsX6_isWritten ({ frames := 60, cells := 0, slots := 0, locals := 3000 } : Room) D T g [.ref m0, .int (nI i), .int k] [(m0, .inr (3, [.ref mb, .ref ml, .ref mm, .int (nI many), .int th, .ref mk])), (mb, .inl (T 0, 1920, .inl fb)), (ml, .inl (T 0, 6, .inl fl)), (mm, .inl (T 0, 600, .inl fm)), (mk, .inl (T 0, 320, .inl fk))] sz (fun u : Nat × Int32 × (Nat → Int32) × (Nat → Int32) × (Nat → Int32) × (Nat → Int32) => some (.int (nI 0))) (fun u : Nat × Int32 × (Nat → Int32) × (Nat → Int32) × (Nat → Int32) × (Nat → Int32) => u.2.1 = nI 2 ∧ MR u.2.2.2.1 u.2.2.1 (N) (Bw)) (fun u : Nat × Int32 × (Nat → Int32) × (Nat → Int32) × (Nat → Int32) × (Nat → Int32) => [(m0, .inr (3, [.ref mb, .ref ml, .ref mm, .int (nI u.1), .int u.2.1, .ref mk])), (mb, .inl (T 0, 1920, .inl u.2.2.1)), (ml, .inl (T 0, 6, .inl u.2.2.2.1)), (mm, .inl (T 0, 600, .inl u.2.2.2.2.1)), (mk, .inl (T 0, 320, .inl u.2.2.2.2.2))]) 0 0 := by
  refine Met.ofW (cc := cX6_isWritten) (maxL := 5) (ret := (some .boolean)) (by decide) rfl ?_
  intro p e s m args below meth c s₁ B hml hv
  obtain ⟨rfl, hsz, hP, hK, hD0, hG⟩ := hv
  have hx := B.exec
  have hb := B.bytes
  have hr := B.returns
  have hts := atoms_spec (ws := wsX6_isWritten) B.pre
  have hown : s.vm.findClass RX6 = some m.cls := findClass_of_methodNamed B.named
  have hlocks := B.notSynchronized
  subst hsz
  have hD := hD0.self (sz := s.heap.size)
  generalize hAe : va_A [(m0, .inr (3, [.ref mb, .ref ml, .ref mm, .int (nI many), .int th, .ref mk])), (mb, .inl (T 0, 1920, .inl fb)), (ml, .inl (T 0, 6, .inl fl)), (mm, .inl (T 0, 600, .inl fm)), (mk, .inl (T 0, 320, .inl fk))] s.heap.size = A at hD hG ⊢
  have hA : ∀ q : Nat, s.heap.size ≤ q → A q := fun q h => by rw [← hAe]; exact Or.inr h
  have hS : va_S A s.heap s.heap [] := va_S.rf
  have hP : va_P D cls [(m0, .inr (3, [.ref mb, .ref ml, .ref mm, .int (nI many), .int th, .ref mk])), (mb, .inl (T 0, 1920, .inl fb)), (ml, .inl (T 0, 6, .inl fl)), (mm, .inl (T 0, 600, .inl fm)), (mk, .inl (T 0, 320, .inl fk))] s.heap := hP
  have hl := lv_entry ([.ref m0, .int (nI i), .int k]) (n := 5) (Nat.le_of_ble_eq_true rfl)
  rw [lg_entry_eq]
  generalize (lg_sl ([.ref m0, .int (nI i), .int k]) ++ List.replicate (5 - (lg_sl ([.ref m0, .int (nI i), .int k])).length) Slot.unset).toArray = ls at hl ⊢
  have hl : lv_has ls 5 [(0, .ref m0), (1, .int (nI i)), (2, .int k)] := hl
  refine lv_aload_n hx hb dX6_isWritten_0 rfl (lv_at hl 0 rfl) ?_
  refine lv_aload_n hx hb dX6_isWritten_1 rfl (lv_at hl 0 rfl) ?_
  refine lv_iload_n hx hb dX6_isWritten_2 rfl (lv_at hl 1 rfl) ?_
  refine ro_V (As := [.int (nI i)]) (rest := [.ref m0]) (wc := []) (r := .int (nI 1)) ⟨hx, hb, hml, hown, hts⟩ (c_X6_isRow_y l D T g m0 i (by omega)) (cwV 1 hts gX6_isWritten_X6_isRow rfl rfl rfl (by decide +kernel) ⟨Nat.le_of_ble_eq_true rfl, Nat.le_of_ble_eq_true rfl⟩) (va_recv hK hP (ci := 3) (q0 := 0) rfl rfl) hP hK hG hS [] rfl ⟨Nat.zero_le _, Nat.zero_le _⟩ rfl hl.1 (Nat.le_of_ble_eq_true rfl) dX6_isWritten_3 rfl ?_
  refine ln_if_ne_t (tgt := 13) hx hb (by omega) (by decide) dX6_isWritten_6 (by decide) ?_
  refine lv_aload_n hx hb dX6_isWritten_13 rfl (lv_at hl 0 rfl) ?_
  refine lv_iload_n hx hb dX6_isWritten_14 rfl (lv_at hl 2 rfl) ?_
  refine ro_V (As := [.int k]) (rest := [.ref m0]) (wc := []) (r := .int (nI 0)) ⟨hx, hb, hml, hown, hts⟩ (c_X6_isKind_n l D T g m0 k hk) (cwV 1 hts gX6_isWritten_X6_isKind rfl rfl rfl (by decide +kernel) ⟨Nat.le_of_ble_eq_true rfl, Nat.le_of_ble_eq_true rfl⟩) (va_recv hK hP (ci := 3) (q0 := 0) rfl rfl) hP hK hG hS [] rfl ⟨Nat.zero_le _, Nat.zero_le _⟩ rfl hl.1 (Nat.le_of_ble_eq_true rfl) dX6_isWritten_15 rfl ?_
  refine ln_if_ne_f (tgt := 25) hx hb (by omega) (by decide) dX6_isWritten_18 (by decide) ?_
  refine lv_iconst (v := (nI 2)) hx hb dX6_isWritten_21 (by decide +kernel) ?_
  refine lv_goto (tgt := 26) hx hb dX6_isWritten_22 (by decide) ?_
  refine mu_V (As := [.int (nI 2)]) (rest := []) (wc := [(m0, .inr (3, [.ref mb, .ref ml, .ref mm, .int (nI many), .int th, .ref mk]))]) (wr := [(mb, .inl (T 0, 1920, .inl fb)), (ml, .inl (T 0, 6, .inl fl)), (mm, .inl (T 0, 600, .inl fm)), (mk, .inl (T 0, 320, .inl fk))]) ⟨hx, hb, hml, hown, hts⟩ (c_X6_isWrong_p l D T g s.heap.size m0 mb ml mm mk many th 2 (by omega)) (cwV 1 hts gX6_isWritten_X6_isWrong rfl rfl rfl (by decide +kernel) ⟨Nat.le_of_ble_eq_true rfl, Nat.le_of_ble_eq_true rfl⟩) (va_recv hK hP (ci := 3) (q0 := 0) rfl rfl) hP hD hK hG hS hA [0] [1, 2, 3, 4] rfl (by decide) rfl (by decide) (by decide) ⟨Nat.le_of_ble_eq_true rfl, Nat.le_of_ble_eq_true rfl⟩ rfl hl.1 (Nat.le_of_ble_eq_true rfl) dX6_isWritten_26 rfl (fun u H locs hq1 hP hD hS => ?_)
  have hP : va_P D cls [(mb, .inl (T 0, 1920, .inl fb)), (ml, .inl (T 0, 6, .inl fl)), (mm, .inl (T 0, 600, .inl fm)), (mk, .inl (T 0, 320, .inl fk)), (m0, .inr (3, [.ref mb, .ref ml, .ref mm, .int (nI many), .int (nI 2), .ref mk]))] H := hP
  have hD : va_D A [(mb, .inl (T 0, 1920, .inl fb)), (ml, .inl (T 0, 6, .inl fl)), (mm, .inl (T 0, 600, .inl fm)), (mk, .inl (T 0, 320, .inl fk)), (m0, .inr (3, [.ref mb, .ref ml, .ref mm, .int (nI many), .int (nI 2), .ref mk]))] := hD
  refine W.eq (g2 := F0 m 29 ls [.int (nI 1)]) rfl ?_
  refine ln_if_eq_f (tgt := 34) hx hb (by omega) (by decide) dX6_isWritten_29 (by decide) ?_
  refine lv_iconst (v := (nI 0)) hx hb dX6_isWritten_32 (by decide +kernel) ?_
  have hP9 := hP.sub (ws' := [(m0, .inr (3, [.ref mb, .ref ml, .ref mm, .int (nI many), .int (nI 2), .ref mk])), (mb, .inl (T 0, 1920, .inl fb)), (ml, .inl (T 0, 6, .inl fl)), (mm, .inl (T 0, 600, .inl fm)), (mk, .inl (T 0, 320, .inl fk))]) [4, 0, 1, 2, 3] rfl
  have hD9 := hD.sub (ws' := [(m0, .inr (3, [.ref mb, .ref ml, .ref mm, .int (nI many), .int (nI 2), .ref mk])), (mb, .inl (T 0, 1920, .inl fb)), (ml, .inl (T 0, 6, .inl fl)), (mm, .inl (T 0, 600, .inl fm)), (mk, .inl (T 0, 320, .inl fk))]) [4, 0, 1, 2, 3] (by decide) rfl
  exact W.zret (v := (nI 0)) (ty := .boolean) hx hb hr (rfl) (fun t ht hW => ⟨⟨(many, (nI 2), fb, fl, fm, fk), rfl, show (nI 2) = nI 2 ∧ MR fl fb (N) (Bw) from ⟨rfl, hMR⟩, (by rw [ht]; exact hP9), va_K.moved hW.alike hK, hD9⟩, hS.F ht⟩) hS.2.2 dX6_isWritten_33
set_option maxHeartbeats 4000000 in
set_option maxRecDepth 100000 in
theorem m_plain_1 (l : Launch) (D : va_G) (T : Nat → ClassId) (g : Nat → Nat) (sz : Nat) (m0 : Nat) (mb : Nat) (ml : Nat) (mm : Nat) (mk : Nat) (many : Nat) (th : Int32) (fb : Nat → Int32) (fl : Nat → Int32) (fm : Nat → Int32) (fk : Nat → Int32) (N : Nat → Nat) (Bw : Nat → Nat → Nat) (hMR : MR fl fb N Bw) (i : Int32) (hi : i < 0 ∨ nI 5 < i) (x0 : Int32) : MU l yX6_plain wsX6_plain ({ frames := 60, cells := 0, slots := 0, locals := 3000 } : Room) D T g [.ref m0, .int i, .int x0] [(m0, .inr (3, [.ref mb, .ref ml, .ref mm, .int (nI many), .int th, .ref mk])), (mb, .inl (T 0, 1920, .inl fb)), (ml, .inl (T 0, 6, .inl fl)), (mm, .inl (T 0, 600, .inl fm)), (mk, .inl (T 0, 320, .inl fk))] sz (fun u : Nat × Int32 × (Nat → Int32) × (Nat → Int32) × (Nat → Int32) × (Nat → Int32) => some (.int (nI 0))) (fun u : Nat × Int32 × (Nat → Int32) × (Nat → Int32) × (Nat → Int32) × (Nat → Int32) => u.2.1 = nI 1 ∧ MR u.2.2.2.1 u.2.2.1 (N) (Bw)) (fun u : Nat × Int32 × (Nat → Int32) × (Nat → Int32) × (Nat → Int32) × (Nat → Int32) => [(m0, .inr (3, [.ref mb, .ref ml, .ref mm, .int (nI u.1), .int u.2.1, .ref mk])), (mb, .inl (T 0, 1920, .inl u.2.2.1)), (ml, .inl (T 0, 6, .inl u.2.2.2.1)), (mm, .inl (T 0, 600, .inl u.2.2.2.2.1)), (mk, .inl (T 0, 320, .inl u.2.2.2.2.2))]) 0 0 := by
  refine Met.ofW (cc := cX6_plain) (maxL := 4) (ret := (some .int)) (by decide) rfl ?_
  intro p e s m args below meth c s₁ B hml hv
  obtain ⟨rfl, hsz, hP, hK, hD0, hG⟩ := hv
  have hx := B.exec
  have hb := B.bytes
  have hr := B.returns
  have hts := atoms_spec (ws := wsX6_plain) B.pre
  have hown : s.vm.findClass RX6 = some m.cls := findClass_of_methodNamed B.named
  have hlocks := B.notSynchronized
  subst hsz
  have hD := hD0.self (sz := s.heap.size)
  generalize hAe : va_A [(m0, .inr (3, [.ref mb, .ref ml, .ref mm, .int (nI many), .int th, .ref mk])), (mb, .inl (T 0, 1920, .inl fb)), (ml, .inl (T 0, 6, .inl fl)), (mm, .inl (T 0, 600, .inl fm)), (mk, .inl (T 0, 320, .inl fk))] s.heap.size = A at hD hG ⊢
  have hA : ∀ q : Nat, s.heap.size ≤ q → A q := fun q h => by rw [← hAe]; exact Or.inr h
  have hS : va_S A s.heap s.heap [] := va_S.rf
  have hP : va_P D cls [(m0, .inr (3, [.ref mb, .ref ml, .ref mm, .int (nI many), .int th, .ref mk])), (mb, .inl (T 0, 1920, .inl fb)), (ml, .inl (T 0, 6, .inl fl)), (mm, .inl (T 0, 600, .inl fm)), (mk, .inl (T 0, 320, .inl fk))] s.heap := hP
  have hl := lv_entry ([.ref m0, .int i, .int x0]) (n := 4) (Nat.le_of_ble_eq_true rfl)
  rw [lg_entry_eq]
  generalize (lg_sl ([.ref m0, .int i, .int x0]) ++ List.replicate (4 - (lg_sl ([.ref m0, .int i, .int x0])).length) Slot.unset).toArray = ls at hl ⊢
  have hl : lv_has ls 4 [(0, .ref m0), (1, .int i), (2, .int x0)] := hl
  refine lv_aload_n hx hb dX6_plain_0 rfl (lv_at hl 0 rfl) ?_
  refine lv_aload_n hx hb dX6_plain_1 rfl (lv_at hl 0 rfl) ?_
  refine lv_iload_n hx hb dX6_plain_2 rfl (lv_at hl 1 rfl) ?_
  refine ro_V (As := [.int i]) (rest := [.ref m0]) (wc := []) (r := .int (nI 0)) ⟨hx, hb, hml, hown, hts⟩ (c_X6_isRow_n l D T g m0 i hi) (cwV 1 hts gX6_plain_X6_isRow rfl rfl rfl (by decide +kernel) ⟨Nat.le_of_ble_eq_true rfl, Nat.le_of_ble_eq_true rfl⟩) (va_recv hK hP (ci := 3) (q0 := 0) rfl rfl) hP hK hG hS [] rfl ⟨Nat.zero_le _, Nat.zero_le _⟩ rfl hl.1 (Nat.le_of_ble_eq_true rfl) dX6_plain_3 rfl ?_
  refine ln_if_ne_f (tgt := 13) hx hb (by omega) (by decide) dX6_plain_6 (by decide) ?_
  refine lv_iconst (v := (nI 1)) hx hb dX6_plain_9 (by decide +kernel) ?_
  refine lv_goto (tgt := 26) hx hb dX6_plain_10 (by decide) ?_
  refine mu_V (As := [.int (nI 1)]) (rest := []) (wc := [(m0, .inr (3, [.ref mb, .ref ml, .ref mm, .int (nI many), .int th, .ref mk]))]) (wr := [(mb, .inl (T 0, 1920, .inl fb)), (ml, .inl (T 0, 6, .inl fl)), (mm, .inl (T 0, 600, .inl fm)), (mk, .inl (T 0, 320, .inl fk))]) ⟨hx, hb, hml, hown, hts⟩ (c_X6_isWrong_p l D T g s.heap.size m0 mb ml mm mk many th 1 (by omega)) (cwV 1 hts gX6_plain_X6_isWrong rfl rfl rfl (by decide +kernel) ⟨Nat.le_of_ble_eq_true rfl, Nat.le_of_ble_eq_true rfl⟩) (va_recv hK hP (ci := 3) (q0 := 0) rfl rfl) hP hD hK hG hS hA [0] [1, 2, 3, 4] rfl (by decide) rfl (by decide) (by decide) ⟨Nat.le_of_ble_eq_true rfl, Nat.le_of_ble_eq_true rfl⟩ rfl hl.1 (Nat.le_of_ble_eq_true rfl) dX6_plain_26 rfl (fun u H locs hq1 hP hD hS => ?_)
  have hP : va_P D cls [(mb, .inl (T 0, 1920, .inl fb)), (ml, .inl (T 0, 6, .inl fl)), (mm, .inl (T 0, 600, .inl fm)), (mk, .inl (T 0, 320, .inl fk)), (m0, .inr (3, [.ref mb, .ref ml, .ref mm, .int (nI many), .int (nI 1), .ref mk]))] H := hP
  have hD : va_D A [(mb, .inl (T 0, 1920, .inl fb)), (ml, .inl (T 0, 6, .inl fl)), (mm, .inl (T 0, 600, .inl fm)), (mk, .inl (T 0, 320, .inl fk)), (m0, .inr (3, [.ref mb, .ref ml, .ref mm, .int (nI many), .int (nI 1), .ref mk]))] := hD
  refine W.eq (g2 := F0 m 29 ls [.int (nI 1)]) rfl ?_
  refine ln_if_eq_f (tgt := 34) hx hb (by omega) (by decide) dX6_plain_29 (by decide) ?_
  refine lv_iconst (v := (nI 0)) hx hb dX6_plain_32 (by decide +kernel) ?_
  have hP9 := hP.sub (ws' := [(m0, .inr (3, [.ref mb, .ref ml, .ref mm, .int (nI many), .int (nI 1), .ref mk])), (mb, .inl (T 0, 1920, .inl fb)), (ml, .inl (T 0, 6, .inl fl)), (mm, .inl (T 0, 600, .inl fm)), (mk, .inl (T 0, 320, .inl fk))]) [4, 0, 1, 2, 3] rfl
  have hD9 := hD.sub (ws' := [(m0, .inr (3, [.ref mb, .ref ml, .ref mm, .int (nI many), .int (nI 1), .ref mk])), (mb, .inl (T 0, 1920, .inl fb)), (ml, .inl (T 0, 6, .inl fl)), (mm, .inl (T 0, 600, .inl fm)), (mk, .inl (T 0, 320, .inl fk))]) [4, 0, 1, 2, 3] (by decide) rfl
  exact W.iret (v := (nI 0)) hx hb hr (fun t ht hW => ⟨⟨(many, (nI 1), fb, fl, fm, fk), rfl, show (nI 1) = nI 1 ∧ MR fl fb (N) (Bw) from ⟨rfl, hMR⟩, (by rw [ht]; exact hP9), va_K.moved hW.alike hK, hD9⟩, hS.F ht⟩) hS.2.2 dX6_plain_33
set_option maxHeartbeats 4000000 in
set_option maxRecDepth 100000 in
theorem m_plain_2 (l : Launch) (D : va_G) (T : Nat → ClassId) (g : Nat → Nat) (sz : Nat) (m0 : Nat) (mb : Nat) (ml : Nat) (mm : Nat) (mk : Nat) (many : Nat) (th : Int32) (fb : Nat → Int32) (fl : Nat → Int32) (fm : Nat → Int32) (fk : Nat → Int32) (N : Nat → Nat) (Bw : Nat → Nat → Nat) (hMR : MR fl fb N Bw) (i : Nat) (hi : i < 6) (k : Int32) (hk : k < 0 ∨ nI 2 < k) : MU l yX6_plain wsX6_plain ({ frames := 60, cells := 0, slots := 0, locals := 3000 } : Room) D T g [.ref m0, .int (nI i), .int k] [(m0, .inr (3, [.ref mb, .ref ml, .ref mm, .int (nI many), .int th, .ref mk])), (mb, .inl (T 0, 1920, .inl fb)), (ml, .inl (T 0, 6, .inl fl)), (mm, .inl (T 0, 600, .inl fm)), (mk, .inl (T 0, 320, .inl fk))] sz (fun u : Nat × Int32 × (Nat → Int32) × (Nat → Int32) × (Nat → Int32) × (Nat → Int32) => some (.int (nI 0))) (fun u : Nat × Int32 × (Nat → Int32) × (Nat → Int32) × (Nat → Int32) × (Nat → Int32) => u.2.1 = nI 2 ∧ MR u.2.2.2.1 u.2.2.1 (N) (Bw)) (fun u : Nat × Int32 × (Nat → Int32) × (Nat → Int32) × (Nat → Int32) × (Nat → Int32) => [(m0, .inr (3, [.ref mb, .ref ml, .ref mm, .int (nI u.1), .int u.2.1, .ref mk])), (mb, .inl (T 0, 1920, .inl u.2.2.1)), (ml, .inl (T 0, 6, .inl u.2.2.2.1)), (mm, .inl (T 0, 600, .inl u.2.2.2.2.1)), (mk, .inl (T 0, 320, .inl u.2.2.2.2.2))]) 0 0 := by
  refine Met.ofW (cc := cX6_plain) (maxL := 4) (ret := (some .int)) (by decide) rfl ?_
  intro p e s m args below meth c s₁ B hml hv
  obtain ⟨rfl, hsz, hP, hK, hD0, hG⟩ := hv
  have hx := B.exec
  have hb := B.bytes
  have hr := B.returns
  have hts := atoms_spec (ws := wsX6_plain) B.pre
  have hown : s.vm.findClass RX6 = some m.cls := findClass_of_methodNamed B.named
  have hlocks := B.notSynchronized
  subst hsz
  have hD := hD0.self (sz := s.heap.size)
  generalize hAe : va_A [(m0, .inr (3, [.ref mb, .ref ml, .ref mm, .int (nI many), .int th, .ref mk])), (mb, .inl (T 0, 1920, .inl fb)), (ml, .inl (T 0, 6, .inl fl)), (mm, .inl (T 0, 600, .inl fm)), (mk, .inl (T 0, 320, .inl fk))] s.heap.size = A at hD hG ⊢
  have hA : ∀ q : Nat, s.heap.size ≤ q → A q := fun q h => by rw [← hAe]; exact Or.inr h
  have hS : va_S A s.heap s.heap [] := va_S.rf
  have hP : va_P D cls [(m0, .inr (3, [.ref mb, .ref ml, .ref mm, .int (nI many), .int th, .ref mk])), (mb, .inl (T 0, 1920, .inl fb)), (ml, .inl (T 0, 6, .inl fl)), (mm, .inl (T 0, 600, .inl fm)), (mk, .inl (T 0, 320, .inl fk))] s.heap := hP
  have hl := lv_entry ([.ref m0, .int (nI i), .int k]) (n := 4) (Nat.le_of_ble_eq_true rfl)
  rw [lg_entry_eq]
  generalize (lg_sl ([.ref m0, .int (nI i), .int k]) ++ List.replicate (4 - (lg_sl ([.ref m0, .int (nI i), .int k])).length) Slot.unset).toArray = ls at hl ⊢
  have hl : lv_has ls 4 [(0, .ref m0), (1, .int (nI i)), (2, .int k)] := hl
  refine lv_aload_n hx hb dX6_plain_0 rfl (lv_at hl 0 rfl) ?_
  refine lv_aload_n hx hb dX6_plain_1 rfl (lv_at hl 0 rfl) ?_
  refine lv_iload_n hx hb dX6_plain_2 rfl (lv_at hl 1 rfl) ?_
  refine ro_V (As := [.int (nI i)]) (rest := [.ref m0]) (wc := []) (r := .int (nI 1)) ⟨hx, hb, hml, hown, hts⟩ (c_X6_isRow_y l D T g m0 i (by omega)) (cwV 1 hts gX6_plain_X6_isRow rfl rfl rfl (by decide +kernel) ⟨Nat.le_of_ble_eq_true rfl, Nat.le_of_ble_eq_true rfl⟩) (va_recv hK hP (ci := 3) (q0 := 0) rfl rfl) hP hK hG hS [] rfl ⟨Nat.zero_le _, Nat.zero_le _⟩ rfl hl.1 (Nat.le_of_ble_eq_true rfl) dX6_plain_3 rfl ?_
  refine ln_if_ne_t (tgt := 13) hx hb (by omega) (by decide) dX6_plain_6 (by decide) ?_
  refine lv_aload_n hx hb dX6_plain_13 rfl (lv_at hl 0 rfl) ?_
  refine lv_iload_n hx hb dX6_plain_14 rfl (lv_at hl 2 rfl) ?_
  refine ro_V (As := [.int k]) (rest := [.ref m0]) (wc := []) (r := .int (nI 0)) ⟨hx, hb, hml, hown, hts⟩ (c_X6_isKind_n l D T g m0 k hk) (cwV 1 hts gX6_plain_X6_isKind rfl rfl rfl (by decide +kernel) ⟨Nat.le_of_ble_eq_true rfl, Nat.le_of_ble_eq_true rfl⟩) (va_recv hK hP (ci := 3) (q0 := 0) rfl rfl) hP hK hG hS [] rfl ⟨Nat.zero_le _, Nat.zero_le _⟩ rfl hl.1 (Nat.le_of_ble_eq_true rfl) dX6_plain_15 rfl ?_
  refine ln_if_ne_f (tgt := 25) hx hb (by omega) (by decide) dX6_plain_18 (by decide) ?_
  refine lv_iconst (v := (nI 2)) hx hb dX6_plain_21 (by decide +kernel) ?_
  refine lv_goto (tgt := 26) hx hb dX6_plain_22 (by decide) ?_
  refine mu_V (As := [.int (nI 2)]) (rest := []) (wc := [(m0, .inr (3, [.ref mb, .ref ml, .ref mm, .int (nI many), .int th, .ref mk]))]) (wr := [(mb, .inl (T 0, 1920, .inl fb)), (ml, .inl (T 0, 6, .inl fl)), (mm, .inl (T 0, 600, .inl fm)), (mk, .inl (T 0, 320, .inl fk))]) ⟨hx, hb, hml, hown, hts⟩ (c_X6_isWrong_p l D T g s.heap.size m0 mb ml mm mk many th 2 (by omega)) (cwV 1 hts gX6_plain_X6_isWrong rfl rfl rfl (by decide +kernel) ⟨Nat.le_of_ble_eq_true rfl, Nat.le_of_ble_eq_true rfl⟩) (va_recv hK hP (ci := 3) (q0 := 0) rfl rfl) hP hD hK hG hS hA [0] [1, 2, 3, 4] rfl (by decide) rfl (by decide) (by decide) ⟨Nat.le_of_ble_eq_true rfl, Nat.le_of_ble_eq_true rfl⟩ rfl hl.1 (Nat.le_of_ble_eq_true rfl) dX6_plain_26 rfl (fun u H locs hq1 hP hD hS => ?_)
  have hP : va_P D cls [(mb, .inl (T 0, 1920, .inl fb)), (ml, .inl (T 0, 6, .inl fl)), (mm, .inl (T 0, 600, .inl fm)), (mk, .inl (T 0, 320, .inl fk)), (m0, .inr (3, [.ref mb, .ref ml, .ref mm, .int (nI many), .int (nI 2), .ref mk]))] H := hP
  have hD : va_D A [(mb, .inl (T 0, 1920, .inl fb)), (ml, .inl (T 0, 6, .inl fl)), (mm, .inl (T 0, 600, .inl fm)), (mk, .inl (T 0, 320, .inl fk)), (m0, .inr (3, [.ref mb, .ref ml, .ref mm, .int (nI many), .int (nI 2), .ref mk]))] := hD
  refine W.eq (g2 := F0 m 29 ls [.int (nI 1)]) rfl ?_
  refine ln_if_eq_f (tgt := 34) hx hb (by omega) (by decide) dX6_plain_29 (by decide) ?_
  refine lv_iconst (v := (nI 0)) hx hb dX6_plain_32 (by decide +kernel) ?_
  have hP9 := hP.sub (ws' := [(m0, .inr (3, [.ref mb, .ref ml, .ref mm, .int (nI many), .int (nI 2), .ref mk])), (mb, .inl (T 0, 1920, .inl fb)), (ml, .inl (T 0, 6, .inl fl)), (mm, .inl (T 0, 600, .inl fm)), (mk, .inl (T 0, 320, .inl fk))]) [4, 0, 1, 2, 3] rfl
  have hD9 := hD.sub (ws' := [(m0, .inr (3, [.ref mb, .ref ml, .ref mm, .int (nI many), .int (nI 2), .ref mk])), (mb, .inl (T 0, 1920, .inl fb)), (ml, .inl (T 0, 6, .inl fl)), (mm, .inl (T 0, 600, .inl fm)), (mk, .inl (T 0, 320, .inl fk))]) [4, 0, 1, 2, 3] (by decide) rfl
  exact W.iret (v := (nI 0)) hx hb hr (fun t ht hW => ⟨⟨(many, (nI 2), fb, fl, fm, fk), rfl, show (nI 2) = nI 2 ∧ MR fl fb (N) (Bw) from ⟨rfl, hMR⟩, (by rw [ht]; exact hP9), va_K.moved hW.alike hK, hD9⟩, hS.F ht⟩) hS.2.2 dX6_plain_33
set_option maxHeartbeats 4000000 in
set_option maxRecDepth 100000 in
theorem m_look (l : Launch) (D : va_G) (T : Nat → ClassId) (g : Nat → Nat) (sz : Nat) (m0 : Nat) (mb : Nat) (ml : Nat) (mm : Nat) (mk : Nat) (many : Nat) (th : Int32) (fb : Nat → Int32) (fl : Nat → Int32) (fm : Nat → Int32) (fk : Nat → Int32) (N : Nat → Nat) (Bw : Nat → Nat → Nat) (hMR : MR fl fb N Bw) (i : Nat) (hi : i < 6) (k : Nat) (hk : k < 3) : MU l yX6_look wsX6_look ({ frames := 60, cells := 0, slots := 0, locals := 3000 } : Room) D T g [.ref m0, .int (nI i), .int (nI k)] [(m0, .inr (3, [.ref mb, .ref ml, .ref mm, .int (nI many), .int th, .ref mk])), (mb, .inl (T 0, 1920, .inl fb)), (ml, .inl (T 0, 6, .inl fl)), (mm, .inl (T 0, 600, .inl fm)), (mk, .inl (T 0, 320, .inl fk))] sz (fun u : Nat × Int32 × (Nat → Int32) × (Nat → Int32) × (Nat → Int32) × (Nat → Int32) => some (.int (tlI k (N i) (Bw i)))) (fun u : Nat × Int32 × (Nat → Int32) × (Nat → Int32) × (Nat → Int32) × (Nat → Int32) => u.2.1 = nI 0 ∧ MR u.2.2.2.1 u.2.2.1 (N) (Bw)) (fun u : Nat × Int32 × (Nat → Int32) × (Nat → Int32) × (Nat → Int32) × (Nat → Int32) => [(m0, .inr (3, [.ref mb, .ref ml, .ref mm, .int (nI u.1), .int u.2.1, .ref mk])), (mb, .inl (T 0, 1920, .inl u.2.2.1)), (ml, .inl (T 0, 6, .inl u.2.2.2.1)), (mm, .inl (T 0, 600, .inl u.2.2.2.2.1)), (mk, .inl (T 0, 320, .inl u.2.2.2.2.2))]) 0 0 := by
  refine Met.ofW (cc := cX6_look) (maxL := 3) (ret := (some .int)) (by decide) rfl ?_
  intro p e s m args below meth c s₁ B hml hv
  obtain ⟨rfl, hsz, hP, hK, hD0, hG⟩ := hv
  have hx := B.exec
  have hb := B.bytes
  have hr := B.returns
  have hts := atoms_spec (ws := wsX6_look) B.pre
  have hown : s.vm.findClass RX6 = some m.cls := findClass_of_methodNamed B.named
  have hlocks := B.notSynchronized
  subst hsz
  have hD := hD0.self (sz := s.heap.size)
  generalize hAe : va_A [(m0, .inr (3, [.ref mb, .ref ml, .ref mm, .int (nI many), .int th, .ref mk])), (mb, .inl (T 0, 1920, .inl fb)), (ml, .inl (T 0, 6, .inl fl)), (mm, .inl (T 0, 600, .inl fm)), (mk, .inl (T 0, 320, .inl fk))] s.heap.size = A at hD hG ⊢
  have hA : ∀ q : Nat, s.heap.size ≤ q → A q := fun q h => by rw [← hAe]; exact Or.inr h
  have hS : va_S A s.heap s.heap [] := va_S.rf
  have hP : va_P D cls [(m0, .inr (3, [.ref mb, .ref ml, .ref mm, .int (nI many), .int th, .ref mk])), (mb, .inl (T 0, 1920, .inl fb)), (ml, .inl (T 0, 6, .inl fl)), (mm, .inl (T 0, 600, .inl fm)), (mk, .inl (T 0, 320, .inl fk))] s.heap := hP
  have hl := lv_entry ([.ref m0, .int (nI i), .int (nI k)]) (n := 3) (Nat.le_of_ble_eq_true rfl)
  rw [lg_entry_eq]
  generalize (lg_sl ([.ref m0, .int (nI i), .int (nI k)]) ++ List.replicate (3 - (lg_sl ([.ref m0, .int (nI i), .int (nI k)])).length) Slot.unset).toArray = ls at hl ⊢
  have hl : lv_has ls 3 [(0, .ref m0), (1, .int (nI i)), (2, .int (nI k))] := hl
  have hrow := hMR i hi
  have hn := hrow.2.1
  refine lv_aload_n hx hb dX6_look_0 rfl (lv_at hl 0 rfl) ?_
  refine lv_aload_n hx hb dX6_look_1 rfl (lv_at hl 0 rfl) ?_
  refine lv_iload_n hx hb dX6_look_2 rfl (lv_at hl 1 rfl) ?_
  refine ro_V (As := [.int (nI i)]) (rest := [.ref m0]) (wc := []) (r := .int (nI 1)) ⟨hx, hb, hml, hown, hts⟩ (c_X6_isRow_y l D T g m0 i (by omega)) (cwV 1 hts gX6_look_X6_isRow rfl rfl rfl (by decide +kernel) ⟨Nat.le_of_ble_eq_true rfl, Nat.le_of_ble_eq_true rfl⟩) (va_recv hK hP (ci := 3) (q0 := 0) rfl rfl) hP hK hG hS [] rfl ⟨Nat.zero_le _, Nat.zero_le _⟩ rfl hl.1 (Nat.le_of_ble_eq_true rfl) dX6_look_3 rfl ?_
  refine ln_if_ne_t (tgt := 13) hx hb (by omega) (by decide) dX6_look_6 (by decide) ?_
  refine lv_aload_n hx hb dX6_look_13 rfl (lv_at hl 0 rfl) ?_
  refine lv_iload_n hx hb dX6_look_14 rfl (lv_at hl 2 rfl) ?_
  refine ro_V (As := [.int (nI k)]) (rest := [.ref m0]) (wc := []) (r := .int (nI 1)) ⟨hx, hb, hml, hown, hts⟩ (c_X6_isKind_y l D T g m0 k (by omega)) (cwV 1 hts gX6_look_X6_isKind rfl rfl rfl (by decide +kernel) ⟨Nat.le_of_ble_eq_true rfl, Nat.le_of_ble_eq_true rfl⟩) (va_recv hK hP (ci := 3) (q0 := 0) rfl rfl) hP hK hG hS [] rfl ⟨Nat.zero_le _, Nat.zero_le _⟩ rfl hl.1 (Nat.le_of_ble_eq_true rfl) dX6_look_15 rfl ?_
  refine ln_if_ne_t (tgt := 25) hx hb (by omega) (by decide) dX6_look_18 (by decide) ?_
  refine lv_iconst (v := (nI 0)) hx hb dX6_look_25 (by decide +kernel) ?_
  refine mu_V (As := [.int (nI 0)]) (rest := []) (wc := [(m0, .inr (3, [.ref mb, .ref ml, .ref mm, .int (nI many), .int th, .ref mk]))]) (wr := [(mb, .inl (T 0, 1920, .inl fb)), (ml, .inl (T 0, 6, .inl fl)), (mm, .inl (T 0, 600, .inl fm)), (mk, .inl (T 0, 320, .inl fk))]) ⟨hx, hb, hml, hown, hts⟩ (c_X6_isWrong_0 l D T g s.heap.size m0 mb ml mm mk many th) (cwV 1 hts gX6_look_X6_isWrong rfl rfl rfl (by decide +kernel) ⟨Nat.le_of_ble_eq_true rfl, Nat.le_of_ble_eq_true rfl⟩) (va_recv hK hP (ci := 3) (q0 := 0) rfl rfl) hP hD hK hG hS hA [0] [1, 2, 3, 4] rfl (by decide) rfl (by decide) (by decide) ⟨Nat.le_of_ble_eq_true rfl, Nat.le_of_ble_eq_true rfl⟩ rfl hl.1 (Nat.le_of_ble_eq_true rfl) dX6_look_26 rfl (fun u H locs hq1 hP hD hS => ?_)
  have hP : va_P D cls [(mb, .inl (T 0, 1920, .inl fb)), (ml, .inl (T 0, 6, .inl fl)), (mm, .inl (T 0, 600, .inl fm)), (mk, .inl (T 0, 320, .inl fk)), (m0, .inr (3, [.ref mb, .ref ml, .ref mm, .int (nI many), .int (nI 0), .ref mk]))] H := hP
  have hD : va_D A [(mb, .inl (T 0, 1920, .inl fb)), (ml, .inl (T 0, 6, .inl fl)), (mm, .inl (T 0, 600, .inl fm)), (mk, .inl (T 0, 320, .inl fk)), (m0, .inr (3, [.ref mb, .ref ml, .ref mm, .int (nI many), .int (nI 0), .ref mk]))] := hD
  refine W.eq (g2 := F0 m 29 ls [.int (nI 0)]) rfl ?_
  refine ln_if_eq_t (tgt := 36) hx hb (by omega) (by decide) dX6_look_29 (by decide) ?_
  refine lv_aload_n hx hb dX6_look_36 rfl (lv_at hl 0 rfl) ?_
  refine lv_iload_n hx hb dX6_look_37 rfl (lv_at hl 1 rfl) ?_
  refine lv_iload_n hx hb dX6_look_38 rfl (lv_at hl 2 rfl) ?_
  refine ro_V (As := [.int (nI i), .int (nI k)]) (rest := []) (wc := [(m0, .inr (3, [.ref mb, .ref ml, .ref mm, .int (nI many), .int (nI 0), .ref mk])), (ml, .inl (T 0, 6, .inl fl)), (mb, .inl (T 0, 1920, .inl fb))]) (r := .int (tlI k (N i) (Bw i))) ⟨hx, hb, hml, hown, hts⟩ (c_X6_looks l D T g m0 mb ml mm mk many (nI 0) fb fl i (N i) (Bw i) hi ((hMR i hi).1) ((hMR i hi).2) k hk) (cwV 2 hts gX6_look_X6_looks rfl rfl rfl (by decide +kernel) ⟨Nat.le_of_ble_eq_true rfl, Nat.le_of_ble_eq_true rfl⟩) (va_recv hK hP (ci := 3) (q0 := 4) rfl rfl) hP hK hG hS [4, 1, 0] rfl ⟨Nat.zero_le _, Nat.zero_le _⟩ rfl hl.1 (Nat.le_of_ble_eq_true rfl) dX6_look_39 rfl ?_
  have hP9 := hP.sub (ws' := [(m0, .inr (3, [.ref mb, .ref ml, .ref mm, .int (nI many), .int (nI 0), .ref mk])), (mb, .inl (T 0, 1920, .inl fb)), (ml, .inl (T 0, 6, .inl fl)), (mm, .inl (T 0, 600, .inl fm)), (mk, .inl (T 0, 320, .inl fk))]) [4, 0, 1, 2, 3] rfl
  have hD9 := hD.sub (ws' := [(m0, .inr (3, [.ref mb, .ref ml, .ref mm, .int (nI many), .int (nI 0), .ref mk])), (mb, .inl (T 0, 1920, .inl fb)), (ml, .inl (T 0, 6, .inl fl)), (mm, .inl (T 0, 600, .inl fm)), (mk, .inl (T 0, 320, .inl fk))]) [4, 0, 1, 2, 3] (by decide) rfl
  exact W.iret (v := (tlI k (N i) (Bw i))) hx hb hr (fun t ht hW => ⟨⟨(many, (nI 0), fb, fl, fm, fk), rfl, show (nI 0) = nI 0 ∧ MR fl fb (N) (Bw) from ⟨rfl, hMR⟩, (by rw [ht]; exact hP9), va_K.moved hW.alike hK, hD9⟩, hS.F ht⟩) hS.2.2 dX6_look_42
set_option maxHeartbeats 4000000 in
set_option maxRecDepth 100000 in
theorem c_X6_lettersOf (l : Launch) (D : va_G) (T : Nat → ClassId) (g : Nat → Nat) (m0 : Nat) (mb : Nat) (ml : Nat) (mm : Nat) (mk : Nat) (many : Nat) (th : Int32) (fb : Nat → Int32) (fl : Nat → Int32) (i : Nat) (n : Nat) (b : Nat → Nat) (hi : i < 6) (hln : fl i = nI n) (hrw : RW fb i n b) (k : Nat) (hk : k < 3) : RO l yX6_lettersOf wsX6_lettersOf ({ frames := 2, cells := 0, slots := 0, locals := 46 } : Room) D T g [.ref m0, .int (nI i), .int (nI k)] [(m0, .inr (3, [.ref mb, .ref ml, .ref mm, .int (nI many), .int th, .ref mk])), (ml, .inl (T 0, 6, .inl fl)), (mb, .inl (T 0, 1920, .inl fb))] (.int (nI (ctN (ltB k b) n))) := by
  refine Met.ofW (cc := cX6_lettersOf) (maxL := 5) (ret := (some .int)) (by decide) rfl ?_
  intro p e s m args below meth c s₁ B hml hv
  obtain ⟨rfl, hP, hK, hG⟩ := hv
  have hx := B.exec
  have hb := B.bytes
  have hr := B.returns
  have hts := atoms_spec (ws := wsX6_lettersOf) B.pre
  have hown : s.vm.findClass RX6 = some m.cls := findClass_of_methodNamed B.named
  have hlocks := B.notSynchronized
  have hi_X6 : ∀ w ∈ wsX60, w ∈ wsX6_lettersOf := by decide +kernel
  have hS : va_S (fun _ => False) s.heap s.heap [] := va_S.rf
  have hl := lv_entry ([.ref m0, .int (nI i), .int (nI k)]) (n := 5) (Nat.le_of_ble_eq_true rfl)
  rw [lg_entry_eq]
  generalize (lg_sl ([.ref m0, .int (nI i), .int (nI k)]) ++ List.replicate (5 - (lg_sl ([.ref m0, .int (nI i), .int (nI k)])).length) Slot.unset).toArray = ls at hl ⊢
  have hl : lv_has ls 5 [(0, .ref m0), (1, .int (nI i)), (2, .int (nI k))] := hl
  have hn := hrw.1
  have hb0 : ∀ j, j < n → b j < 256 := fun j hj => (hrw.2 j hj).2
  refine lv_iconst (v := (nI 0)) hx hb dX6_lettersOf_0 (by decide +kernel) ?_
  refine lv_istore_n (lv' := [(3, .int (nI 0)), (0, .ref m0), (1, .int (nI i)), (2, .int (nI k))]) hx hb dX6_lettersOf_1 rfl hl (by decide) rfl (fun ls hl => ?_)
  refine lv_iconst (v := (nI 0)) hx hb dX6_lettersOf_2 (by decide +kernel) ?_
  refine lv_istore (lv' := [(4, .int (nI 0)), (3, .int (nI 0)), (0, .ref m0), (1, .int (nI i)), (2, .int (nI k))]) hx hb dX6_lettersOf_3 hl (by decide) rfl (fun ls hl => ?_)
  have K1 : ∀ (N9 : Nat) (d : Nat), (d ≤ n) → n - d < N9 → ∀ ls : Array Slot, lv_has ls 5 [(0, .ref m0), (1, .int (nI i)), (2, .int (nI k)), (3, .int (nI (ctN (ltB k b) d))), (4, .int (nI d))] → W p l e (headSpec wsX6_lettersOf ({ frames := 2, cells := 0, slots := 0, locals := 46 } : Room)).room s m ([.ref m0, .int (nI i), .int (nI k)] : List Value).toArray below meth c s.heap [] 0 0 (MQ below (k2_QcV (.int (nI (ctN (ltB k b) n)))) ([.ref m0, .int (nI i), .int (nI k)] : List Value).toArray s 0 0 (fun _ => False)) (F0 m 5 ls []) := by
    intro N9
    induction N9 with
    | zero => intro d hd h9; exact absurd h9 (Nat.not_lt_zero _)
    | succ N9 ih_5 =>
      intro d hd h9 ls hl
      refine lv_iload hx hb dX6_lettersOf_5 (lv_at hl 4 rfl) ?_
      refine lv_aload_n hx hb dX6_lettersOf_7 rfl (lv_at hl 0 rfl) ?_
      refine va_get (D := D) (ci := 3) (v := .ref ml) (C := RX6) (T := TX6) (N := 6) hx hb hts hi_X6 hown hK hP 0 rfl rfl 1 (by decide) (hts _ (List.mem_of_getElem? (i := 1) rfl)) (fun _ h9 => h9) rfl dX6_lettersOf_8 ?_
      refine lv_iload_n hx hb dX6_lettersOf_11 rfl (lv_at hl 1 rfl) ?_
      refine ln_iald hx hb hK hP 1 0 rfl rfl ⟨by omega, by omega⟩ dX6_lettersOf_12 ?_
      rw [show fl i = nI n from hln]
      refine ln_icmp_ge (tgt := 45) hx hb ⟨by omega, by omega⟩ dX6_lettersOf_13 (by decide) (fun c_13 => ?_) (fun c_13 => ?_)
      · refine lv_iload_n hx hb dX6_lettersOf_45 rfl (lv_at hl 3 rfl) ?_
        exact W.iret (v := (nI (ctN (ltB k b) d))) hx hb hr (fun t ht hW => ⟨(congrArg (fun z => Outcome.returned (some (Value.int z))) (show (nI (ctN (ltB k b) d)) = (nI (ctN (ltB k b) n)) from congrArg nI (congrArg (ctN (ltB k b)) (by omega)))), ht⟩) (fun q h => nomatch h) dX6_lettersOf_46
      · refine lv_iload_n hx hb dX6_lettersOf_16 rfl (lv_at hl 3 rfl) ?_
        refine lv_aload_n hx hb dX6_lettersOf_17 rfl (lv_at hl 0 rfl) ?_
        refine lv_aload_n hx hb dX6_lettersOf_18 rfl (lv_at hl 0 rfl) ?_
        refine lv_iload_n hx hb dX6_lettersOf_19 rfl (lv_at hl 1 rfl) ?_
        refine lv_iload hx hb dX6_lettersOf_20 (lv_at hl 4 rfl) ?_
        refine ro_V (As := [.int (nI i), .int (nI d)]) (rest := [.ref m0, .int (nI (ctN (ltB k b) d))]) (wc := [(m0, .inr (3, [.ref mb, .ref ml, .ref mm, .int (nI many), .int th, .ref mk])), (mb, .inl (T 0, 1920, .inl fb))]) (r := .int (nI (b d))) ⟨hx, hb, hml, hown, hts⟩ (c_X6_atB l D T g m0 mb ml mm mk many th fb i d n b hi hrw (by omega)) (cwV 2 hts gX6_lettersOf_X6_at rfl rfl rfl (by decide +kernel) ⟨Nat.le_of_ble_eq_true rfl, Nat.le_of_ble_eq_true rfl⟩) (va_recv hK hP (ci := 3) (q0 := 0) rfl rfl) hP hK hG hS [0, 2] rfl ⟨Nat.zero_le _, Nat.zero_le _⟩ rfl hl.1 (Nat.le_of_ble_eq_true rfl) dX6_lettersOf_22 rfl ?_
        refine lv_iload_n hx hb dX6_lettersOf_25 rfl (lv_at hl 2 rfl) ?_
        refine ro_V (As := [.int (nI (b d)), .int (nI k)]) (rest := [.int (nI (ctN (ltB k b) d))]) (wc := [(m0, .inr (3, [.ref mb, .ref ml, .ref mm, .int (nI many), .int th, .ref mk]))]) (r := .int (wV k (b d))) ⟨hx, hb, hml, hown, hts⟩ (c_X6_worth l D T g m0 mb ml mm mk many th (b d) (hb0 d (by omega)) k hk) (cwV 2 hts gX6_lettersOf_X6_worth rfl rfl rfl (by decide +kernel) ⟨Nat.le_of_ble_eq_true rfl, Nat.le_of_ble_eq_true rfl⟩) (va_recv hK hP (ci := 3) (q0 := 0) rfl rfl) hP hK hG hS [0] rfl ⟨Nat.zero_le _, Nat.zero_le _⟩ rfl hl.1 (Nat.le_of_ble_eq_true rfl) dX6_lettersOf_26 rfl ?_
        by_cases hw6 : wN k (b d) < 64
        · have hL8 : ltB k b d = true := decide_eq_true hw6
          rw [wV_pos hw6]
          refine ln_if_lt_f (tgt := 36) hx hb (by omega) dX6_lettersOf_29 (by decide) ?_
          refine lv_iconst (v := (nI 1)) hx hb dX6_lettersOf_32 (by decide +kernel) ?_
          refine lv_goto (tgt := 37) hx hb dX6_lettersOf_33 (by decide) ?_
          refine ln_add hx hb dX6_lettersOf_37 ?_
          rw [show (ctN (ltB k b) d) + 1 = ctN (ltB k b) (d + 1) from (ctN_t hL8).symm]
          refine lv_istore_n (lv' := [(3, .int (nI (ctN (ltB k b) (d + 1)))), (0, .ref m0), (1, .int (nI i)), (2, .int (nI k)), (4, .int (nI d))]) hx hb dX6_lettersOf_38 rfl hl (by decide) rfl (fun ls hl => ?_)
          refine lv_iinc (v := (nI (d + 1))) (lv' := [(4, .int (nI (d + 1))), (3, .int (nI (ctN (ltB k b) (d + 1)))), (0, .ref m0), (1, .int (nI i)), (2, .int (nI k))]) hx hb dX6_lettersOf_39 hl (k := 4) rfl (ni_inc1 _) (by decide) rfl (fun ls hl => ?_)
          refine lv_goto (tgt := 5) hx hb dX6_lettersOf_42 (by decide) ?_
          exact ih_5 (d + 1) (by omega) (by omega) ls (lv_sub hl [2, 3, 4, 1, 0] rfl)
        · have hL8 : ltB k b d = false := decide_eq_false hw6
          rw [wV_no hw6]
          refine lv_if_lt (tgt := 36) hx hb dX6_lettersOf_29 (by decide) (fun _ => ?_) (fun q9 => absurd (by decide) q9)
          refine lv_iconst (v := (nI 0)) hx hb dX6_lettersOf_36 (by decide +kernel) ?_
          refine ln_add hx hb dX6_lettersOf_37 ?_
          rw [show (ctN (ltB k b) d) + 0 = ctN (ltB k b) (d + 1) from (ctN_f hL8).symm]
          refine lv_istore_n (lv' := [(3, .int (nI (ctN (ltB k b) (d + 1)))), (0, .ref m0), (1, .int (nI i)), (2, .int (nI k)), (4, .int (nI d))]) hx hb dX6_lettersOf_38 rfl hl (by decide) rfl (fun ls hl => ?_)
          refine lv_iinc (v := (nI (d + 1))) (lv' := [(4, .int (nI (d + 1))), (3, .int (nI (ctN (ltB k b) (d + 1)))), (0, .ref m0), (1, .int (nI i)), (2, .int (nI k))]) hx hb dX6_lettersOf_39 hl (k := 4) rfl (ni_inc1 _) (by decide) rfl (fun ls hl => ?_)
          refine lv_goto (tgt := 5) hx hb dX6_lettersOf_42 (by decide) ?_
          exact ih_5 (d + 1) (by omega) (by omega) ls (lv_sub hl [2, 3, 4, 1, 0] rfl)
  exact K1 _ 0 (by omega) (Nat.lt_succ_self _) ls (lv_sub hl [2, 3, 4, 1, 0] rfl)
set_option maxHeartbeats 4000000 in
set_option maxRecDepth 100000 in
theorem m_letters (l : Launch) (D : va_G) (T : Nat → ClassId) (g : Nat → Nat) (sz : Nat) (m0 : Nat) (mb : Nat) (ml : Nat) (mm : Nat) (mk : Nat) (many : Nat) (th : Int32) (fb : Nat → Int32) (fl : Nat → Int32) (fm : Nat → Int32) (fk : Nat → Int32) (N : Nat → Nat) (Bw : Nat → Nat → Nat) (hMR : MR fl fb N Bw) (i : Nat) (hi : i < 6) (k : Nat) (hk : k < 3) : MU l yX6_letters wsX6_letters ({ frames := 60, cells := 0, slots := 0, locals := 3000 } : Room) D T g [.ref m0, .int (nI i), .int (nI k)] [(m0, .inr (3, [.ref mb, .ref ml, .ref mm, .int (nI many), .int th, .ref mk])), (mb, .inl (T 0, 1920, .inl fb)), (ml, .inl (T 0, 6, .inl fl)), (mm, .inl (T 0, 600, .inl fm)), (mk, .inl (T 0, 320, .inl fk))] sz (fun u : Nat × Int32 × (Nat → Int32) × (Nat → Int32) × (Nat → Int32) × (Nat → Int32) => some (.int (nI (ctN (ltB k (Bw i)) (N i))))) (fun u : Nat × Int32 × (Nat → Int32) × (Nat → Int32) × (Nat → Int32) × (Nat → Int32) => u.2.1 = nI 0 ∧ MR u.2.2.2.1 u.2.2.1 (N) (Bw)) (fun u : Nat × Int32 × (Nat → Int32) × (Nat → Int32) × (Nat → Int32) × (Nat → Int32) => [(m0, .inr (3, [.ref mb, .ref ml, .ref mm, .int (nI u.1), .int u.2.1, .ref mk])), (mb, .inl (T 0, 1920, .inl u.2.2.1)), (ml, .inl (T 0, 6, .inl u.2.2.2.1)), (mm, .inl (T 0, 600, .inl u.2.2.2.2.1)), (mk, .inl (T 0, 320, .inl u.2.2.2.2.2))]) 0 0 := by
  refine Met.ofW (cc := cX6_letters) (maxL := 3) (ret := (some .int)) (by decide) rfl ?_
  intro p e s m args below meth c s₁ B hml hv
  obtain ⟨rfl, hsz, hP, hK, hD0, hG⟩ := hv
  have hx := B.exec
  have hb := B.bytes
  have hr := B.returns
  have hts := atoms_spec (ws := wsX6_letters) B.pre
  have hown : s.vm.findClass RX6 = some m.cls := findClass_of_methodNamed B.named
  have hlocks := B.notSynchronized
  subst hsz
  have hD := hD0.self (sz := s.heap.size)
  generalize hAe : va_A [(m0, .inr (3, [.ref mb, .ref ml, .ref mm, .int (nI many), .int th, .ref mk])), (mb, .inl (T 0, 1920, .inl fb)), (ml, .inl (T 0, 6, .inl fl)), (mm, .inl (T 0, 600, .inl fm)), (mk, .inl (T 0, 320, .inl fk))] s.heap.size = A at hD hG ⊢
  have hA : ∀ q : Nat, s.heap.size ≤ q → A q := fun q h => by rw [← hAe]; exact Or.inr h
  have hS : va_S A s.heap s.heap [] := va_S.rf
  have hP : va_P D cls [(m0, .inr (3, [.ref mb, .ref ml, .ref mm, .int (nI many), .int th, .ref mk])), (mb, .inl (T 0, 1920, .inl fb)), (ml, .inl (T 0, 6, .inl fl)), (mm, .inl (T 0, 600, .inl fm)), (mk, .inl (T 0, 320, .inl fk))] s.heap := hP
  have hl := lv_entry ([.ref m0, .int (nI i), .int (nI k)]) (n := 3) (Nat.le_of_ble_eq_true rfl)
  rw [lg_entry_eq]
  generalize (lg_sl ([.ref m0, .int (nI i), .int (nI k)]) ++ List.replicate (3 - (lg_sl ([.ref m0, .int (nI i), .int (nI k)])).length) Slot.unset).toArray = ls at hl ⊢
  have hl : lv_has ls 3 [(0, .ref m0), (1, .int (nI i)), (2, .int (nI k))] := hl
  have hrow := hMR i hi
  have hn := hrow.2.1
  refine lv_aload_n hx hb dX6_letters_0 rfl (lv_at hl 0 rfl) ?_
  refine lv_aload_n hx hb dX6_letters_1 rfl (lv_at hl 0 rfl) ?_
  refine lv_iload_n hx hb dX6_letters_2 rfl (lv_at hl 1 rfl) ?_
  refine ro_V (As := [.int (nI i)]) (rest := [.ref m0]) (wc := []) (r := .int (nI 1)) ⟨hx, hb, hml, hown, hts⟩ (c_X6_isRow_y l D T g m0 i (by omega)) (cwV 1 hts gX6_letters_X6_isRow rfl rfl rfl (by decide +kernel) ⟨Nat.le_of_ble_eq_true rfl, Nat.le_of_ble_eq_true rfl⟩) (va_recv hK hP (ci := 3) (q0 := 0) rfl rfl) hP hK hG hS [] rfl ⟨Nat.zero_le _, Nat.zero_le _⟩ rfl hl.1 (Nat.le_of_ble_eq_true rfl) dX6_letters_3 rfl ?_
  refine ln_if_ne_t (tgt := 13) hx hb (by omega) (by decide) dX6_letters_6 (by decide) ?_
  refine lv_aload_n hx hb dX6_letters_13 rfl (lv_at hl 0 rfl) ?_
  refine lv_iload_n hx hb dX6_letters_14 rfl (lv_at hl 2 rfl) ?_
  refine ro_V (As := [.int (nI k)]) (rest := [.ref m0]) (wc := []) (r := .int (nI 1)) ⟨hx, hb, hml, hown, hts⟩ (c_X6_isKind_y l D T g m0 k (by omega)) (cwV 1 hts gX6_letters_X6_isKind rfl rfl rfl (by decide +kernel) ⟨Nat.le_of_ble_eq_true rfl, Nat.le_of_ble_eq_true rfl⟩) (va_recv hK hP (ci := 3) (q0 := 0) rfl rfl) hP hK hG hS [] rfl ⟨Nat.zero_le _, Nat.zero_le _⟩ rfl hl.1 (Nat.le_of_ble_eq_true rfl) dX6_letters_15 rfl ?_
  refine ln_if_ne_t (tgt := 25) hx hb (by omega) (by decide) dX6_letters_18 (by decide) ?_
  refine lv_iconst (v := (nI 0)) hx hb dX6_letters_25 (by decide +kernel) ?_
  refine mu_V (As := [.int (nI 0)]) (rest := []) (wc := [(m0, .inr (3, [.ref mb, .ref ml, .ref mm, .int (nI many), .int th, .ref mk]))]) (wr := [(mb, .inl (T 0, 1920, .inl fb)), (ml, .inl (T 0, 6, .inl fl)), (mm, .inl (T 0, 600, .inl fm)), (mk, .inl (T 0, 320, .inl fk))]) ⟨hx, hb, hml, hown, hts⟩ (c_X6_isWrong_0 l D T g s.heap.size m0 mb ml mm mk many th) (cwV 1 hts gX6_letters_X6_isWrong rfl rfl rfl (by decide +kernel) ⟨Nat.le_of_ble_eq_true rfl, Nat.le_of_ble_eq_true rfl⟩) (va_recv hK hP (ci := 3) (q0 := 0) rfl rfl) hP hD hK hG hS hA [0] [1, 2, 3, 4] rfl (by decide) rfl (by decide) (by decide) ⟨Nat.le_of_ble_eq_true rfl, Nat.le_of_ble_eq_true rfl⟩ rfl hl.1 (Nat.le_of_ble_eq_true rfl) dX6_letters_26 rfl (fun u H locs hq1 hP hD hS => ?_)
  have hP : va_P D cls [(mb, .inl (T 0, 1920, .inl fb)), (ml, .inl (T 0, 6, .inl fl)), (mm, .inl (T 0, 600, .inl fm)), (mk, .inl (T 0, 320, .inl fk)), (m0, .inr (3, [.ref mb, .ref ml, .ref mm, .int (nI many), .int (nI 0), .ref mk]))] H := hP
  have hD : va_D A [(mb, .inl (T 0, 1920, .inl fb)), (ml, .inl (T 0, 6, .inl fl)), (mm, .inl (T 0, 600, .inl fm)), (mk, .inl (T 0, 320, .inl fk)), (m0, .inr (3, [.ref mb, .ref ml, .ref mm, .int (nI many), .int (nI 0), .ref mk]))] := hD
  refine W.eq (g2 := F0 m 29 ls [.int (nI 0)]) rfl ?_
  refine ln_if_eq_t (tgt := 36) hx hb (by omega) (by decide) dX6_letters_29 (by decide) ?_
  refine lv_aload_n hx hb dX6_letters_36 rfl (lv_at hl 0 rfl) ?_
  refine lv_iload_n hx hb dX6_letters_37 rfl (lv_at hl 1 rfl) ?_
  refine lv_iload_n hx hb dX6_letters_38 rfl (lv_at hl 2 rfl) ?_
  refine ro_V (As := [.int (nI i), .int (nI k)]) (rest := []) (wc := [(m0, .inr (3, [.ref mb, .ref ml, .ref mm, .int (nI many), .int (nI 0), .ref mk])), (ml, .inl (T 0, 6, .inl fl)), (mb, .inl (T 0, 1920, .inl fb))]) (r := .int (nI (ctN (ltB k (Bw i)) (N i)))) ⟨hx, hb, hml, hown, hts⟩ (c_X6_lettersOf l D T g m0 mb ml mm mk many (nI 0) fb fl i (N i) (Bw i) hi ((hMR i hi).1) ((hMR i hi).2) k hk) (cwV 2 hts gX6_letters_X6_lettersOf rfl rfl rfl (by decide +kernel) ⟨Nat.le_of_ble_eq_true rfl, Nat.le_of_ble_eq_true rfl⟩) (va_recv hK hP (ci := 3) (q0 := 4) rfl rfl) hP hK hG hS [4, 1, 0] rfl ⟨Nat.zero_le _, Nat.zero_le _⟩ rfl hl.1 (Nat.le_of_ble_eq_true rfl) dX6_letters_39 rfl ?_
  have hP9 := hP.sub (ws' := [(m0, .inr (3, [.ref mb, .ref ml, .ref mm, .int (nI many), .int (nI 0), .ref mk])), (mb, .inl (T 0, 1920, .inl fb)), (ml, .inl (T 0, 6, .inl fl)), (mm, .inl (T 0, 600, .inl fm)), (mk, .inl (T 0, 320, .inl fk))]) [4, 0, 1, 2, 3] rfl
  have hD9 := hD.sub (ws' := [(m0, .inr (3, [.ref mb, .ref ml, .ref mm, .int (nI many), .int (nI 0), .ref mk])), (mb, .inl (T 0, 1920, .inl fb)), (ml, .inl (T 0, 6, .inl fl)), (mm, .inl (T 0, 600, .inl fm)), (mk, .inl (T 0, 320, .inl fk))]) [4, 0, 1, 2, 3] (by decide) rfl
  exact W.iret (v := (nI (ctN (ltB k (Bw i)) (N i)))) hx hb hr (fun t ht hW => ⟨⟨(many, (nI 0), fb, fl, fm, fk), rfl, show (nI 0) = nI 0 ∧ MR fl fb (N) (Bw) from ⟨rfl, hMR⟩, (by rw [ht]; exact hP9), va_K.moved hW.alike hK, hD9⟩, hS.F ht⟩) hS.2.2 dX6_letters_42
set_option maxHeartbeats 4000000 in
set_option maxRecDepth 100000 in
theorem m_isWritten_n (l : Launch) (D : va_G) (T : Nat → ClassId) (g : Nat → Nat) (sz : Nat) (m0 : Nat) (mb : Nat) (ml : Nat) (mm : Nat) (mk : Nat) (many : Nat) (th : Int32) (fb : Nat → Int32) (fl : Nat → Int32) (fm : Nat → Int32) (fk : Nat → Int32) (N : Nat → Nat) (Bw : Nat → Nat → Nat) (hMR : MR fl fb N Bw) (i : Nat) (hi : i < 6) (k : Nat) (hk : k < 3) (hwu : wroB k (N i) (Bw i) = true ∨ untB k (N i) (Bw i) = true) : MU l yX6_isWritten wsX6_isWritten ({ frames := 60, cells := 0, slots := 0, locals := 3000 } : Room) D T g [.ref m0, .int (nI i), .int (nI k)] [(m0, .inr (3, [.ref mb, .ref ml, .ref mm, .int (nI many), .int th, .ref mk])), (mb, .inl (T 0, 1920, .inl fb)), (ml, .inl (T 0, 6, .inl fl)), (mm, .inl (T 0, 600, .inl fm)), (mk, .inl (T 0, 320, .inl fk))] sz (fun u : Nat × Int32 × (Nat → Int32) × (Nat → Int32) × (Nat → Int32) × (Nat → Int32) => some (.int (nI 0))) (fun u : Nat × Int32 × (Nat → Int32) × (Nat → Int32) × (Nat → Int32) × (Nat → Int32) => u.2.1 = nI 0 ∧ MR u.2.2.2.1 u.2.2.1 (N) (Bw)) (fun u : Nat × Int32 × (Nat → Int32) × (Nat → Int32) × (Nat → Int32) × (Nat → Int32) => [(m0, .inr (3, [.ref mb, .ref ml, .ref mm, .int (nI u.1), .int u.2.1, .ref mk])), (mb, .inl (T 0, 1920, .inl u.2.2.1)), (ml, .inl (T 0, 6, .inl u.2.2.2.1)), (mm, .inl (T 0, 600, .inl u.2.2.2.2.1)), (mk, .inl (T 0, 320, .inl u.2.2.2.2.2))]) 0 0 := by
  refine Met.ofW (cc := cX6_isWritten) (maxL := 5) (ret := (some .boolean)) (by decide) rfl ?_
  intro p e s m args below meth c s₁ B hml hv
  obtain ⟨rfl, hsz, hP, hK, hD0, hG⟩ := hv
  have hx := B.exec
  have hb := B.bytes
  have hr := B.returns
  have hts := atoms_spec (ws := wsX6_isWritten) B.pre
  have hown : s.vm.findClass RX6 = some m.cls := findClass_of_methodNamed B.named
  have hlocks := B.notSynchronized
  subst hsz
  have hD := hD0.self (sz := s.heap.size)
  generalize hAe : va_A [(m0, .inr (3, [.ref mb, .ref ml, .ref mm, .int (nI many), .int th, .ref mk])), (mb, .inl (T 0, 1920, .inl fb)), (ml, .inl (T 0, 6, .inl fl)), (mm, .inl (T 0, 600, .inl fm)), (mk, .inl (T 0, 320, .inl fk))] s.heap.size = A at hD hG ⊢
  have hA : ∀ q : Nat, s.heap.size ≤ q → A q := fun q h => by rw [← hAe]; exact Or.inr h
  have hS : va_S A s.heap s.heap [] := va_S.rf
  have hP : va_P D cls [(m0, .inr (3, [.ref mb, .ref ml, .ref mm, .int (nI many), .int th, .ref mk])), (mb, .inl (T 0, 1920, .inl fb)), (ml, .inl (T 0, 6, .inl fl)), (mm, .inl (T 0, 600, .inl fm)), (mk, .inl (T 0, 320, .inl fk))] s.heap := hP
  have hl := lv_entry ([.ref m0, .int (nI i), .int (nI k)]) (n := 5) (Nat.le_of_ble_eq_true rfl)
  rw [lg_entry_eq]
  generalize (lg_sl ([.ref m0, .int (nI i), .int (nI k)]) ++ List.replicate (5 - (lg_sl ([.ref m0, .int (nI i), .int (nI k)])).length) Slot.unset).toArray = ls at hl ⊢
  have hl : lv_has ls 5 [(0, .ref m0), (1, .int (nI i)), (2, .int (nI k))] := hl
  have hrow := hMR i hi
  have hn := hrow.2.1
  have hneg : ¬ 0 ≤ tlI k (N i) (Bw i) := by
    cases hw : wroB k (N i) (Bw i) with
    | true => rw [tl_wrong hw]; decide
    | false => rcases hwu with z | z; rw [hw] at z; cases z; rw [tl_unt hw z]; decide
  refine lv_aload_n hx hb dX6_isWritten_0 rfl (lv_at hl 0 rfl) ?_
  refine lv_aload_n hx hb dX6_isWritten_1 rfl (lv_at hl 0 rfl) ?_
  refine lv_iload_n hx hb dX6_isWritten_2 rfl (lv_at hl 1 rfl) ?_
  refine ro_V (As := [.int (nI i)]) (rest := [.ref m0]) (wc := []) (r := .int (nI 1)) ⟨hx, hb, hml, hown, hts⟩ (c_X6_isRow_y l D T g m0 i (by omega)) (cwV 1 hts gX6_isWritten_X6_isRow rfl rfl rfl (by decide +kernel) ⟨Nat.le_of_ble_eq_true rfl, Nat.le_of_ble_eq_true rfl⟩) (va_recv hK hP (ci := 3) (q0 := 0) rfl rfl) hP hK hG hS [] rfl ⟨Nat.zero_le _, Nat.zero_le _⟩ rfl hl.1 (Nat.le_of_ble_eq_true rfl) dX6_isWritten_3 rfl ?_
  refine ln_if_ne_t (tgt := 13) hx hb (by omega) (by decide) dX6_isWritten_6 (by decide) ?_
  refine lv_aload_n hx hb dX6_isWritten_13 rfl (lv_at hl 0 rfl) ?_
  refine lv_iload_n hx hb dX6_isWritten_14 rfl (lv_at hl 2 rfl) ?_
  refine ro_V (As := [.int (nI k)]) (rest := [.ref m0]) (wc := []) (r := .int (nI 1)) ⟨hx, hb, hml, hown, hts⟩ (c_X6_isKind_y l D T g m0 k (by omega)) (cwV 1 hts gX6_isWritten_X6_isKind rfl rfl rfl (by decide +kernel) ⟨Nat.le_of_ble_eq_true rfl, Nat.le_of_ble_eq_true rfl⟩) (va_recv hK hP (ci := 3) (q0 := 0) rfl rfl) hP hK hG hS [] rfl ⟨Nat.zero_le _, Nat.zero_le _⟩ rfl hl.1 (Nat.le_of_ble_eq_true rfl) dX6_isWritten_15 rfl ?_
  refine ln_if_ne_t (tgt := 25) hx hb (by omega) (by decide) dX6_isWritten_18 (by decide) ?_
  refine lv_iconst (v := (nI 0)) hx hb dX6_isWritten_25 (by decide +kernel) ?_
  refine mu_V (As := [.int (nI 0)]) (rest := []) (wc := [(m0, .inr (3, [.ref mb, .ref ml, .ref mm, .int (nI many), .int th, .ref mk]))]) (wr := [(mb, .inl (T 0, 1920, .inl fb)), (ml, .inl (T 0, 6, .inl fl)), (mm, .inl (T 0, 600, .inl fm)), (mk, .inl (T 0, 320, .inl fk))]) ⟨hx, hb, hml, hown, hts⟩ (c_X6_isWrong_0 l D T g s.heap.size m0 mb ml mm mk many th) (cwV 1 hts gX6_isWritten_X6_isWrong rfl rfl rfl (by decide +kernel) ⟨Nat.le_of_ble_eq_true rfl, Nat.le_of_ble_eq_true rfl⟩) (va_recv hK hP (ci := 3) (q0 := 0) rfl rfl) hP hD hK hG hS hA [0] [1, 2, 3, 4] rfl (by decide) rfl (by decide) (by decide) ⟨Nat.le_of_ble_eq_true rfl, Nat.le_of_ble_eq_true rfl⟩ rfl hl.1 (Nat.le_of_ble_eq_true rfl) dX6_isWritten_26 rfl (fun u H locs hq1 hP hD hS => ?_)
  have hP : va_P D cls [(mb, .inl (T 0, 1920, .inl fb)), (ml, .inl (T 0, 6, .inl fl)), (mm, .inl (T 0, 600, .inl fm)), (mk, .inl (T 0, 320, .inl fk)), (m0, .inr (3, [.ref mb, .ref ml, .ref mm, .int (nI many), .int (nI 0), .ref mk]))] H := hP
  have hD : va_D A [(mb, .inl (T 0, 1920, .inl fb)), (ml, .inl (T 0, 6, .inl fl)), (mm, .inl (T 0, 600, .inl fm)), (mk, .inl (T 0, 320, .inl fk)), (m0, .inr (3, [.ref mb, .ref ml, .ref mm, .int (nI many), .int (nI 0), .ref mk]))] := hD
  refine W.eq (g2 := F0 m 29 ls [.int (nI 0)]) rfl ?_
  refine ln_if_eq_t (tgt := 34) hx hb (by omega) (by decide) dX6_isWritten_29 (by decide) ?_
  refine lv_aload_n hx hb dX6_isWritten_34 rfl (lv_at hl 0 rfl) ?_
  refine lv_iload_n hx hb dX6_isWritten_35 rfl (lv_at hl 1 rfl) ?_
  refine lv_iload_n hx hb dX6_isWritten_36 rfl (lv_at hl 2 rfl) ?_
  refine ro_V (As := [.int (nI i), .int (nI k)]) (rest := []) (wc := [(m0, .inr (3, [.ref mb, .ref ml, .ref mm, .int (nI many), .int (nI 0), .ref mk])), (ml, .inl (T 0, 6, .inl fl)), (mb, .inl (T 0, 1920, .inl fb))]) (r := .int (tlI k (N i) (Bw i))) ⟨hx, hb, hml, hown, hts⟩ (c_X6_looks l D T g m0 mb ml mm mk many (nI 0) fb fl i (N i) (Bw i) hi ((hMR i hi).1) ((hMR i hi).2) k hk) (cwV 2 hts gX6_isWritten_X6_looks rfl rfl rfl (by decide +kernel) ⟨Nat.le_of_ble_eq_true rfl, Nat.le_of_ble_eq_true rfl⟩) (va_recv hK hP (ci := 3) (q0 := 4) rfl rfl) hP hK hG hS [4, 1, 0] rfl ⟨Nat.zero_le _, Nat.zero_le _⟩ rfl hl.1 (Nat.le_of_ble_eq_true rfl) dX6_isWritten_37 rfl ?_
  refine lv_istore_n (lv' := [(3, .int (tlI k (N i) (Bw i))), (0, .ref m0), (1, .int (nI i)), (2, .int (nI k))]) hx hb dX6_isWritten_40 rfl hl (by decide) rfl (fun ls hl => ?_)
  refine lv_iload_n hx hb dX6_isWritten_41 rfl (lv_at hl 0 rfl) ?_
  refine lv_if_ge (tgt := 47) hx hb dX6_isWritten_42 (by decide) (fun q9 => absurd q9 (hneg)) (fun _ => ?_)
  refine lv_iconst (v := (nI 0)) hx hb dX6_isWritten_45 (by decide +kernel) ?_
  have hP9 := hP.sub (ws' := [(m0, .inr (3, [.ref mb, .ref ml, .ref mm, .int (nI many), .int (nI 0), .ref mk])), (mb, .inl (T 0, 1920, .inl fb)), (ml, .inl (T 0, 6, .inl fl)), (mm, .inl (T 0, 600, .inl fm)), (mk, .inl (T 0, 320, .inl fk))]) [4, 0, 1, 2, 3] rfl
  have hD9 := hD.sub (ws' := [(m0, .inr (3, [.ref mb, .ref ml, .ref mm, .int (nI many), .int (nI 0), .ref mk])), (mb, .inl (T 0, 1920, .inl fb)), (ml, .inl (T 0, 6, .inl fl)), (mm, .inl (T 0, 600, .inl fm)), (mk, .inl (T 0, 320, .inl fk))]) [4, 0, 1, 2, 3] (by decide) rfl
  exact W.zret (v := (nI 0)) (ty := .boolean) hx hb hr (rfl) (fun t ht hW => ⟨⟨(many, (nI 0), fb, fl, fm, fk), rfl, show (nI 0) = nI 0 ∧ MR fl fb (N) (Bw) from ⟨rfl, hMR⟩, (by rw [ht]; exact hP9), va_K.moved hW.alike hK, hD9⟩, hS.F ht⟩) hS.2.2 dX6_isWritten_46
set_option maxHeartbeats 4000000 in
set_option maxRecDepth 100000 in
theorem m_isWritten (l : Launch) (D : va_G) (T : Nat → ClassId) (g : Nat → Nat) (sz : Nat) (m0 : Nat) (mb : Nat) (ml : Nat) (mm : Nat) (mk : Nat) (many : Nat) (th : Int32) (fb : Nat → Int32) (fl : Nat → Int32) (fm : Nat → Int32) (fk : Nat → Int32) (N : Nat → Nat) (Bw : Nat → Nat → Nat) (hMR : MR fl fb N Bw) (i : Nat) (hi : i < 6) (k : Nat) (hk : k < 3) (hw : wroB k (N i) (Bw i) = false) (hu : untB k (N i) (Bw i) = false) : MU l yX6_isWritten wsX6_isWritten ({ frames := 60, cells := 0, slots := 0, locals := 3000 } : Room) D T g [.ref m0, .int (nI i), .int (nI k)] [(m0, .inr (3, [.ref mb, .ref ml, .ref mm, .int (nI many), .int th, .ref mk])), (mb, .inl (T 0, 1920, .inl fb)), (ml, .inl (T 0, 6, .inl fl)), (mm, .inl (T 0, 600, .inl fm)), (mk, .inl (T 0, 320, .inl fk))] sz (fun u : Nat × Int32 × (Nat → Int32) × (Nat → Int32) × (Nat → Int32) × (Nat → Int32) => some (.int (bI (saB (N i) (Bw i) (lnN k (lF k (N i) (Bw i) * 6 / 8) 1) (wrA k (lF k (N i) (Bw i) * 6 / 8) (outB (lwF k (N i) (Bw i)))) || saB (N i) (Bw i) (lnN k (lF k (N i) (Bw i) * 6 / 8) 0) (wrA k (lF k (N i) (Bw i) * 6 / 8) (outB (lwF k (N i) (Bw i)))))))) (fun u : Nat × Int32 × (Nat → Int32) × (Nat → Int32) × (Nat → Int32) × (Nat → Int32) => u.2.1 = nI 0 ∧ MR u.2.2.2.1 u.2.2.1 (N) (Bw)) (fun u : Nat × Int32 × (Nat → Int32) × (Nat → Int32) × (Nat → Int32) × (Nat → Int32) => [(m0, .inr (3, [.ref mb, .ref ml, .ref mm, .int (nI u.1), .int u.2.1, .ref mk])), (mb, .inl (T 0, 1920, .inl u.2.2.1)), (ml, .inl (T 0, 6, .inl u.2.2.2.1)), (mm, .inl (T 0, 600, .inl u.2.2.2.2.1)), (mk, .inl (T 0, 320, .inl u.2.2.2.2.2))]) 0 0 := by
  refine Met.ofW (cc := cX6_isWritten) (maxL := 5) (ret := (some .boolean)) (by decide) rfl ?_
  intro p e s m args below meth c s₁ B hml hv
  obtain ⟨rfl, hsz, hP, hK, hD0, hG⟩ := hv
  have hx := B.exec
  have hb := B.bytes
  have hr := B.returns
  have hts := atoms_spec (ws := wsX6_isWritten) B.pre
  have hown : s.vm.findClass RX6 = some m.cls := findClass_of_methodNamed B.named
  have hlocks := B.notSynchronized
  subst hsz
  have hD := hD0.self (sz := s.heap.size)
  generalize hAe : va_A [(m0, .inr (3, [.ref mb, .ref ml, .ref mm, .int (nI many), .int th, .ref mk])), (mb, .inl (T 0, 1920, .inl fb)), (ml, .inl (T 0, 6, .inl fl)), (mm, .inl (T 0, 600, .inl fm)), (mk, .inl (T 0, 320, .inl fk))] s.heap.size = A at hD hG ⊢
  have hA : ∀ q : Nat, s.heap.size ≤ q → A q := fun q h => by rw [← hAe]; exact Or.inr h
  have hS : va_S A s.heap s.heap [] := va_S.rf
  have hP : va_P D cls [(m0, .inr (3, [.ref mb, .ref ml, .ref mm, .int (nI many), .int th, .ref mk])), (mb, .inl (T 0, 1920, .inl fb)), (ml, .inl (T 0, 6, .inl fl)), (mm, .inl (T 0, 600, .inl fm)), (mk, .inl (T 0, 320, .inl fk))] s.heap := hP
  have hl := lv_entry ([.ref m0, .int (nI i), .int (nI k)]) (n := 5) (Nat.le_of_ble_eq_true rfl)
  rw [lg_entry_eq]
  generalize (lg_sl ([.ref m0, .int (nI i), .int (nI k)]) ++ List.replicate (5 - (lg_sl ([.ref m0, .int (nI i), .int (nI k)])).length) Slot.unset).toArray = ls at hl ⊢
  have hl : lv_has ls 5 [(0, .ref m0), (1, .int (nI i)), (2, .int (nI k))] := hl
  have hrow := hMR i hi
  have hn := hrow.2.1
  have hz9 := l9_le (k := k) (b := Bw i) (n := N i) (by omega)
  refine lv_aload_n hx hb dX6_isWritten_0 rfl (lv_at hl 0 rfl) ?_
  refine lv_aload_n hx hb dX6_isWritten_1 rfl (lv_at hl 0 rfl) ?_
  refine lv_iload_n hx hb dX6_isWritten_2 rfl (lv_at hl 1 rfl) ?_
  refine ro_V (As := [.int (nI i)]) (rest := [.ref m0]) (wc := []) (r := .int (nI 1)) ⟨hx, hb, hml, hown, hts⟩ (c_X6_isRow_y l D T g m0 i (by omega)) (cwV 1 hts gX6_isWritten_X6_isRow rfl rfl rfl (by decide +kernel) ⟨Nat.le_of_ble_eq_true rfl, Nat.le_of_ble_eq_true rfl⟩) (va_recv hK hP (ci := 3) (q0 := 0) rfl rfl) hP hK hG hS [] rfl ⟨Nat.zero_le _, Nat.zero_le _⟩ rfl hl.1 (Nat.le_of_ble_eq_true rfl) dX6_isWritten_3 rfl ?_
  refine ln_if_ne_t (tgt := 13) hx hb (by omega) (by decide) dX6_isWritten_6 (by decide) ?_
  refine lv_aload_n hx hb dX6_isWritten_13 rfl (lv_at hl 0 rfl) ?_
  refine lv_iload_n hx hb dX6_isWritten_14 rfl (lv_at hl 2 rfl) ?_
  refine ro_V (As := [.int (nI k)]) (rest := [.ref m0]) (wc := []) (r := .int (nI 1)) ⟨hx, hb, hml, hown, hts⟩ (c_X6_isKind_y l D T g m0 k (by omega)) (cwV 1 hts gX6_isWritten_X6_isKind rfl rfl rfl (by decide +kernel) ⟨Nat.le_of_ble_eq_true rfl, Nat.le_of_ble_eq_true rfl⟩) (va_recv hK hP (ci := 3) (q0 := 0) rfl rfl) hP hK hG hS [] rfl ⟨Nat.zero_le _, Nat.zero_le _⟩ rfl hl.1 (Nat.le_of_ble_eq_true rfl) dX6_isWritten_15 rfl ?_
  refine ln_if_ne_t (tgt := 25) hx hb (by omega) (by decide) dX6_isWritten_18 (by decide) ?_
  refine lv_iconst (v := (nI 0)) hx hb dX6_isWritten_25 (by decide +kernel) ?_
  refine mu_V (As := [.int (nI 0)]) (rest := []) (wc := [(m0, .inr (3, [.ref mb, .ref ml, .ref mm, .int (nI many), .int th, .ref mk]))]) (wr := [(mb, .inl (T 0, 1920, .inl fb)), (ml, .inl (T 0, 6, .inl fl)), (mm, .inl (T 0, 600, .inl fm)), (mk, .inl (T 0, 320, .inl fk))]) ⟨hx, hb, hml, hown, hts⟩ (c_X6_isWrong_0 l D T g s.heap.size m0 mb ml mm mk many th) (cwV 1 hts gX6_isWritten_X6_isWrong rfl rfl rfl (by decide +kernel) ⟨Nat.le_of_ble_eq_true rfl, Nat.le_of_ble_eq_true rfl⟩) (va_recv hK hP (ci := 3) (q0 := 0) rfl rfl) hP hD hK hG hS hA [0] [1, 2, 3, 4] rfl (by decide) rfl (by decide) (by decide) ⟨Nat.le_of_ble_eq_true rfl, Nat.le_of_ble_eq_true rfl⟩ rfl hl.1 (Nat.le_of_ble_eq_true rfl) dX6_isWritten_26 rfl (fun u H locs hq1 hP hD hS => ?_)
  have hP : va_P D cls [(mb, .inl (T 0, 1920, .inl fb)), (ml, .inl (T 0, 6, .inl fl)), (mm, .inl (T 0, 600, .inl fm)), (mk, .inl (T 0, 320, .inl fk)), (m0, .inr (3, [.ref mb, .ref ml, .ref mm, .int (nI many), .int (nI 0), .ref mk]))] H := hP
  have hD : va_D A [(mb, .inl (T 0, 1920, .inl fb)), (ml, .inl (T 0, 6, .inl fl)), (mm, .inl (T 0, 600, .inl fm)), (mk, .inl (T 0, 320, .inl fk)), (m0, .inr (3, [.ref mb, .ref ml, .ref mm, .int (nI many), .int (nI 0), .ref mk]))] := hD
  refine W.eq (g2 := F0 m 29 ls [.int (nI 0)]) rfl ?_
  refine ln_if_eq_t (tgt := 34) hx hb (by omega) (by decide) dX6_isWritten_29 (by decide) ?_
  refine lv_aload_n hx hb dX6_isWritten_34 rfl (lv_at hl 0 rfl) ?_
  refine lv_iload_n hx hb dX6_isWritten_35 rfl (lv_at hl 1 rfl) ?_
  refine lv_iload_n hx hb dX6_isWritten_36 rfl (lv_at hl 2 rfl) ?_
  refine ro_V (As := [.int (nI i), .int (nI k)]) (rest := []) (wc := [(m0, .inr (3, [.ref mb, .ref ml, .ref mm, .int (nI many), .int (nI 0), .ref mk])), (ml, .inl (T 0, 6, .inl fl)), (mb, .inl (T 0, 1920, .inl fb))]) (r := .int (tlI k (N i) (Bw i))) ⟨hx, hb, hml, hown, hts⟩ (c_X6_looks l D T g m0 mb ml mm mk many (nI 0) fb fl i (N i) (Bw i) hi ((hMR i hi).1) ((hMR i hi).2) k hk) (cwV 2 hts gX6_isWritten_X6_looks rfl rfl rfl (by decide +kernel) ⟨Nat.le_of_ble_eq_true rfl, Nat.le_of_ble_eq_true rfl⟩) (va_recv hK hP (ci := 3) (q0 := 4) rfl rfl) hP hK hG hS [4, 1, 0] rfl ⟨Nat.zero_le _, Nat.zero_le _⟩ rfl hl.1 (Nat.le_of_ble_eq_true rfl) dX6_isWritten_37 rfl ?_
  rw [tl_good hw hu]
  refine lv_istore_n (lv' := [(3, .int (nI (lF k (N i) (Bw i) * 6 / 8))), (0, .ref m0), (1, .int (nI i)), (2, .int (nI k))]) hx hb dX6_isWritten_40 rfl hl (by decide) rfl (fun ls hl => ?_)
  refine lv_iload_n hx hb dX6_isWritten_41 rfl (lv_at hl 0 rfl) ?_
  refine ln_if_ge_t (tgt := 47) hx hb (by omega) dX6_isWritten_42 (by decide) ?_
  refine lv_aload_n hx hb dX6_isWritten_47 rfl (lv_at hl 1 rfl) ?_
  refine lv_iload_n hx hb dX6_isWritten_48 rfl (lv_at hl 2 rfl) ?_
  refine lv_iload_n hx hb dX6_isWritten_49 rfl (lv_at hl 3 rfl) ?_
  refine lv_iload_n hx hb dX6_isWritten_50 rfl (lv_at hl 0 rfl) ?_
  refine lv_iconst (v := (nI 1)) hx hb dX6_isWritten_51 (by decide +kernel) ?_
  refine mu_V (As := [.int (nI i), .int (nI k), .int (nI (lF k (N i) (Bw i) * 6 / 8)), .int (nI 1)]) (rest := []) (wc := [(m0, .inr (3, [.ref mb, .ref ml, .ref mm, .int (nI many), .int (nI 0), .ref mk])), (mb, .inl (T 0, 1920, .inl fb)), (ml, .inl (T 0, 6, .inl fl)), (mm, .inl (T 0, 600, .inl fm)), (mk, .inl (T 0, 320, .inl fk))]) (wr := []) ⟨hx, hb, hml, hown, hts⟩ (c_X6_again l D T g H.size m0 mb ml mm mk many (nI 0) fb fl fm fk N Bw i hi (hMR) k hk (lF k (N i) (Bw i) * 6 / 8) (hu) (rfl) 1 (by omega)) (cwV 4 hts gX6_isWritten_X6_again rfl rfl rfl (by decide +kernel) ⟨Nat.le_of_ble_eq_true rfl, Nat.le_of_ble_eq_true rfl⟩) (va_recv hK hP (ci := 3) (q0 := 4) rfl rfl) hP hD hK hG hS hA [4, 0, 1, 2, 3] [] rfl (by decide) rfl (by decide) (by decide) ⟨Nat.le_of_ble_eq_true rfl, Nat.le_of_ble_eq_true rfl⟩ rfl hl.1 (Nat.le_of_ble_eq_true rfl) dX6_isWritten_52 rfl (fun u H locs hq6 hP hD hS => ?_)
  obtain ⟨G1_2, G2_3, G3_4, G4_5⟩ := u
  have hP : va_P D cls [(m0, .inr (3, [.ref mb, .ref ml, .ref mm, .int (nI (lnN k (lF k (N i) (Bw i) * 6 / 8) 1)), .int (nI 0), .ref mk])), (mb, .inl (T 0, 1920, .inl G2_3)), (ml, .inl (T 0, 6, .inl G1_2)), (mm, .inl (T 0, 600, .inl G3_4)), (mk, .inl (T 0, 320, .inl G4_5))] H := hP
  have hD : va_D A [(m0, .inr (3, [.ref mb, .ref ml, .ref mm, .int (nI (lnN k (lF k (N i) (Bw i) * 6 / 8) 1)), .int (nI 0), .ref mk])), (mb, .inl (T 0, 1920, .inl G2_3)), (ml, .inl (T 0, 6, .inl G1_2)), (mm, .inl (T 0, 600, .inl G3_4)), (mk, .inl (T 0, 320, .inl G4_5))] := hD
  have hp1 : MR G1_2 G2_3 N Bw ∧ MD G3_4 (lnN k (lF k (N i) (Bw i) * 6 / 8) 1) (wrA k (lF k (N i) (Bw i) * 6 / 8) (outB (lwF k (N i) (Bw i)))) := hq6
  refine W.eq (g2 := F0 m 55 ls []) rfl ?_
  refine lv_aload_n hx hb dX6_isWritten_55 rfl (lv_at hl 1 rfl) ?_
  refine lv_iload_n hx hb dX6_isWritten_56 rfl (lv_at hl 2 rfl) ?_
  refine ro_V (As := [.int (nI i)]) (rest := []) (wc := [(m0, .inr (3, [.ref mb, .ref ml, .ref mm, .int (nI (lnN k (lF k (N i) (Bw i) * 6 / 8) 1)), .int (nI 0), .ref mk])), (ml, .inl (T 0, 6, .inl G1_2)), (mb, .inl (T 0, 1920, .inl G2_3)), (mm, .inl (T 0, 600, .inl G3_4))]) (r := .int (bI (saB (N i) (Bw i) (lnN k (lF k (N i) (Bw i) * 6 / 8) 1) (wrA k (lF k (N i) (Bw i) * 6 / 8) (outB (lwF k (N i) (Bw i))))))) ⟨hx, hb, hml, hown, hts⟩ (c_X6_isMade l D T g m0 mb ml mm mk (lnN k (lF k (N i) (Bw i) * 6 / 8) 1) (nI 0) G2_3 G1_2 G3_4 i (N i) (Bw i) hi ((hp1.1 i hi).1) ((hp1.1 i hi).2) (wrA k (lF k (N i) (Bw i) * 6 / 8) (outB (lwF k (N i) (Bw i)))) (hp1.2)) (cwV 1 hts gX6_isWritten_X6_isMade rfl rfl rfl (by decide +kernel) ⟨Nat.le_of_ble_eq_true rfl, Nat.le_of_ble_eq_true rfl⟩) (va_recv hK hP (ci := 3) (q0 := 0) rfl rfl) hP hK hG hS [0, 2, 1, 3] rfl ⟨Nat.zero_le _, Nat.zero_le _⟩ rfl hl.1 (Nat.le_of_ble_eq_true rfl) dX6_isWritten_57 rfl ?_
  refine lv_istore (lv' := [(4, .int (bI (saB (N i) (Bw i) (lnN k (lF k (N i) (Bw i) * 6 / 8) 1) (wrA k (lF k (N i) (Bw i) * 6 / 8) (outB (lwF k (N i) (Bw i))))))), (3, .int (nI (lF k (N i) (Bw i) * 6 / 8))), (0, .ref m0), (1, .int (nI i)), (2, .int (nI k))]) hx hb dX6_isWritten_60 hl (by decide) rfl (fun ls hl => ?_)
  refine lv_aload_n hx hb dX6_isWritten_62 rfl (lv_at hl 2 rfl) ?_
  refine lv_iload_n hx hb dX6_isWritten_63 rfl (lv_at hl 3 rfl) ?_
  refine lv_iload_n hx hb dX6_isWritten_64 rfl (lv_at hl 4 rfl) ?_
  refine lv_iload_n hx hb dX6_isWritten_65 rfl (lv_at hl 1 rfl) ?_
  refine lv_iconst (v := (nI 0)) hx hb dX6_isWritten_66 (by decide +kernel) ?_
  refine mu_V (As := [.int (nI i), .int (nI k), .int (nI (lF k (N i) (Bw i) * 6 / 8)), .int (nI 0)]) (rest := []) (wc := [(m0, .inr (3, [.ref mb, .ref ml, .ref mm, .int (nI (lnN k (lF k (N i) (Bw i) * 6 / 8) 1)), .int (nI 0), .ref mk])), (mb, .inl (T 0, 1920, .inl G2_3)), (ml, .inl (T 0, 6, .inl G1_2)), (mm, .inl (T 0, 600, .inl G3_4)), (mk, .inl (T 0, 320, .inl G4_5))]) (wr := []) ⟨hx, hb, hml, hown, hts⟩ (c_X6_again l D T g H.size m0 mb ml mm mk (lnN k (lF k (N i) (Bw i) * 6 / 8) 1) (nI 0) G2_3 G1_2 G3_4 G4_5 N Bw i hi (hp1.1) k hk (lF k (N i) (Bw i) * 6 / 8) (hu) (rfl) 0 (by omega)) (cwV 4 hts gX6_isWritten_X6_again rfl rfl rfl (by decide +kernel) ⟨Nat.le_of_ble_eq_true rfl, Nat.le_of_ble_eq_true rfl⟩) (va_recv hK hP (ci := 3) (q0 := 0) rfl rfl) hP hD hK hG hS hA [0, 1, 2, 3, 4] [] rfl (by decide) rfl (by decide) (by decide) ⟨Nat.le_of_ble_eq_true rfl, Nat.le_of_ble_eq_true rfl⟩ rfl hl.1 (Nat.le_of_ble_eq_true rfl) dX6_isWritten_67 rfl (fun u H locs hq11 hP hD hS => ?_)
  obtain ⟨G1_7, G2_8, G3_9, G4_10⟩ := u
  have hP : va_P D cls [(m0, .inr (3, [.ref mb, .ref ml, .ref mm, .int (nI (lnN k (lF k (N i) (Bw i) * 6 / 8) 0)), .int (nI 0), .ref mk])), (mb, .inl (T 0, 1920, .inl G2_8)), (ml, .inl (T 0, 6, .inl G1_7)), (mm, .inl (T 0, 600, .inl G3_9)), (mk, .inl (T 0, 320, .inl G4_10))] H := hP
  have hD : va_D A [(m0, .inr (3, [.ref mb, .ref ml, .ref mm, .int (nI (lnN k (lF k (N i) (Bw i) * 6 / 8) 0)), .int (nI 0), .ref mk])), (mb, .inl (T 0, 1920, .inl G2_8)), (ml, .inl (T 0, 6, .inl G1_7)), (mm, .inl (T 0, 600, .inl G3_9)), (mk, .inl (T 0, 320, .inl G4_10))] := hD
  have hp2 : MR G1_7 G2_8 N Bw ∧ MD G3_9 (lnN k (lF k (N i) (Bw i) * 6 / 8) 0) (wrA k (lF k (N i) (Bw i) * 6 / 8) (outB (lwF k (N i) (Bw i)))) := hq11
  refine W.eq (g2 := F0 m 70 ls []) rfl ?_
  refine lv_iload hx hb dX6_isWritten_70 (lv_at hl 0 rfl) ?_
  refine lv_if_ne (tgt := 83) hx hb dX6_isWritten_72 (by decide) (fun c_72 => ?_) (fun c_72 => ?_)
  · refine lv_iconst (v := (nI 1)) hx hb dX6_isWritten_83 (by decide +kernel) ?_
    refine lv_goto (tgt := 88) hx hb dX6_isWritten_84 (by decide) ?_
    have hP9 := hP.sub (ws' := [(m0, .inr (3, [.ref mb, .ref ml, .ref mm, .int (nI (lnN k (lF k (N i) (Bw i) * 6 / 8) 0)), .int (nI 0), .ref mk])), (mb, .inl (T 0, 1920, .inl G2_8)), (ml, .inl (T 0, 6, .inl G1_7)), (mm, .inl (T 0, 600, .inl G3_9)), (mk, .inl (T 0, 320, .inl G4_10))]) [0, 1, 2, 3, 4] rfl
    have hD9 := hD.sub (ws' := [(m0, .inr (3, [.ref mb, .ref ml, .ref mm, .int (nI (lnN k (lF k (N i) (Bw i) * 6 / 8) 0)), .int (nI 0), .ref mk])), (mb, .inl (T 0, 1920, .inl G2_8)), (ml, .inl (T 0, 6, .inl G1_7)), (mm, .inl (T 0, 600, .inl G3_9)), (mk, .inl (T 0, 320, .inl G4_10))]) [0, 1, 2, 3, 4] (by decide) rfl
    exact W.zret (v := (nI 1)) (ty := .boolean) hx hb hr (rfl) (fun t ht hW => ⟨⟨(lnN k (lF k (N i) (Bw i) * 6 / 8) 0, (nI 0), G2_8, G1_7, G3_9, G4_10), congrArg (fun z => Outcome.returned (some (Value.int z))) (by first | (rw [bI_nz.mp c_72]; rfl) | (rw [bI_nz.mp c_80, Bool.or_true]; rfl)), show (nI 0) = nI 0 ∧ MR G1_7 G2_8 (N) (Bw) from ⟨rfl, hp2.1⟩, (by rw [ht]; exact hP9), va_K.moved hW.alike hK, hD9⟩, hS.F ht⟩) hS.2.2 dX6_isWritten_88
  · refine lv_aload_n hx hb dX6_isWritten_75 rfl (lv_at hl 2 rfl) ?_
    refine lv_iload_n hx hb dX6_isWritten_76 rfl (lv_at hl 3 rfl) ?_
    refine ro_V (As := [.int (nI i)]) (rest := []) (wc := [(m0, .inr (3, [.ref mb, .ref ml, .ref mm, .int (nI (lnN k (lF k (N i) (Bw i) * 6 / 8) 0)), .int (nI 0), .ref mk])), (ml, .inl (T 0, 6, .inl G1_7)), (mb, .inl (T 0, 1920, .inl G2_8)), (mm, .inl (T 0, 600, .inl G3_9))]) (r := .int (bI (saB (N i) (Bw i) (lnN k (lF k (N i) (Bw i) * 6 / 8) 0) (wrA k (lF k (N i) (Bw i) * 6 / 8) (outB (lwF k (N i) (Bw i))))))) ⟨hx, hb, hml, hown, hts⟩ (c_X6_isMade l D T g m0 mb ml mm mk (lnN k (lF k (N i) (Bw i) * 6 / 8) 0) (nI 0) G2_8 G1_7 G3_9 i (N i) (Bw i) hi ((hp2.1 i hi).1) ((hp2.1 i hi).2) (wrA k (lF k (N i) (Bw i) * 6 / 8) (outB (lwF k (N i) (Bw i)))) (hp2.2)) (cwV 1 hts gX6_isWritten_X6_isMade rfl rfl rfl (by decide +kernel) ⟨Nat.le_of_ble_eq_true rfl, Nat.le_of_ble_eq_true rfl⟩) (va_recv hK hP (ci := 3) (q0 := 0) rfl rfl) hP hK hG hS [0, 2, 1, 3] rfl ⟨Nat.zero_le _, Nat.zero_le _⟩ rfl hl.1 (Nat.le_of_ble_eq_true rfl) dX6_isWritten_77 rfl ?_
    refine lv_if_eq (tgt := 87) hx hb dX6_isWritten_80 (by decide) (fun c_80 => ?_) (fun c_80 => ?_)
    · refine lv_iconst (v := (nI 0)) hx hb dX6_isWritten_87 (by decide +kernel) ?_
      have hP9 := hP.sub (ws' := [(m0, .inr (3, [.ref mb, .ref ml, .ref mm, .int (nI (lnN k (lF k (N i) (Bw i) * 6 / 8) 0)), .int (nI 0), .ref mk])), (mb, .inl (T 0, 1920, .inl G2_8)), (ml, .inl (T 0, 6, .inl G1_7)), (mm, .inl (T 0, 600, .inl G3_9)), (mk, .inl (T 0, 320, .inl G4_10))]) [0, 1, 2, 3, 4] rfl
      have hD9 := hD.sub (ws' := [(m0, .inr (3, [.ref mb, .ref ml, .ref mm, .int (nI (lnN k (lF k (N i) (Bw i) * 6 / 8) 0)), .int (nI 0), .ref mk])), (mb, .inl (T 0, 1920, .inl G2_8)), (ml, .inl (T 0, 6, .inl G1_7)), (mm, .inl (T 0, 600, .inl G3_9)), (mk, .inl (T 0, 320, .inl G4_10))]) [0, 1, 2, 3, 4] (by decide) rfl
      exact W.zret (v := (nI 0)) (ty := .boolean) hx hb hr (rfl) (fun t ht hW => ⟨⟨(lnN k (lF k (N i) (Bw i) * 6 / 8) 0, (nI 0), G2_8, G1_7, G3_9, G4_10), congrArg (fun z => Outcome.returned (some (Value.int z))) (by rw [bI_z.mp c_72, bI_z.mp c_80]; rfl), show (nI 0) = nI 0 ∧ MR G1_7 G2_8 (N) (Bw) from ⟨rfl, hp2.1⟩, (by rw [ht]; exact hP9), va_K.moved hW.alike hK, hD9⟩, hS.F ht⟩) hS.2.2 dX6_isWritten_88
    · refine lv_iconst (v := (nI 1)) hx hb dX6_isWritten_83 (by decide +kernel) ?_
      refine lv_goto (tgt := 88) hx hb dX6_isWritten_84 (by decide) ?_
      have hP9 := hP.sub (ws' := [(m0, .inr (3, [.ref mb, .ref ml, .ref mm, .int (nI (lnN k (lF k (N i) (Bw i) * 6 / 8) 0)), .int (nI 0), .ref mk])), (mb, .inl (T 0, 1920, .inl G2_8)), (ml, .inl (T 0, 6, .inl G1_7)), (mm, .inl (T 0, 600, .inl G3_9)), (mk, .inl (T 0, 320, .inl G4_10))]) [0, 1, 2, 3, 4] rfl
      have hD9 := hD.sub (ws' := [(m0, .inr (3, [.ref mb, .ref ml, .ref mm, .int (nI (lnN k (lF k (N i) (Bw i) * 6 / 8) 0)), .int (nI 0), .ref mk])), (mb, .inl (T 0, 1920, .inl G2_8)), (ml, .inl (T 0, 6, .inl G1_7)), (mm, .inl (T 0, 600, .inl G3_9)), (mk, .inl (T 0, 320, .inl G4_10))]) [0, 1, 2, 3, 4] (by decide) rfl
      exact W.zret (v := (nI 1)) (ty := .boolean) hx hb hr (rfl) (fun t ht hW => ⟨⟨(lnN k (lF k (N i) (Bw i) * 6 / 8) 0, (nI 0), G2_8, G1_7, G3_9, G4_10), congrArg (fun z => Outcome.returned (some (Value.int z))) (by first | (rw [bI_nz.mp c_72]; rfl) | (rw [bI_nz.mp c_80, Bool.or_true]; rfl)), show (nI 0) = nI 0 ∧ MR G1_7 G2_8 (N) (Bw) from ⟨rfl, hp2.1⟩, (by rw [ht]; exact hP9), va_K.moved hW.alike hK, hD9⟩, hS.F ht⟩) hS.2.2 dX6_isWritten_88
set_option maxHeartbeats 4000000 in
set_option maxRecDepth 100000 in
theorem m_plain_4 (l : Launch) (D : va_G) (T : Nat → ClassId) (g : Nat → Nat) (sz : Nat) (m0 : Nat) (mb : Nat) (ml : Nat) (mm : Nat) (mk : Nat) (many : Nat) (th : Int32) (fb : Nat → Int32) (fl : Nat → Int32) (fm : Nat → Int32) (fk : Nat → Int32) (N : Nat → Nat) (Bw : Nat → Nat → Nat) (hMR : MR fl fb N Bw) (i : Nat) (hi : i < 6) (k : Nat) (hk : k < 3) (hw : wroB k (N i) (Bw i) = true) : MU l yX6_plain wsX6_plain ({ frames := 60, cells := 0, slots := 0, locals := 3000 } : Room) D T g [.ref m0, .int (nI i), .int (nI k)] [(m0, .inr (3, [.ref mb, .ref ml, .ref mm, .int (nI many), .int th, .ref mk])), (mb, .inl (T 0, 1920, .inl fb)), (ml, .inl (T 0, 6, .inl fl)), (mm, .inl (T 0, 600, .inl fm)), (mk, .inl (T 0, 320, .inl fk))] sz (fun u : Nat × Int32 × (Nat → Int32) × (Nat → Int32) × (Nat → Int32) × (Nat → Int32) => some (.int (nI 0))) (fun u : Nat × Int32 × (Nat → Int32) × (Nat → Int32) × (Nat → Int32) × (Nat → Int32) => u.2.1 = nI 2 ∧ MR u.2.2.2.1 u.2.2.1 (N) (Bw)) (fun u : Nat × Int32 × (Nat → Int32) × (Nat → Int32) × (Nat → Int32) × (Nat → Int32) => [(m0, .inr (3, [.ref mb, .ref ml, .ref mm, .int (nI u.1), .int u.2.1, .ref mk])), (mb, .inl (T 0, 1920, .inl u.2.2.1)), (ml, .inl (T 0, 6, .inl u.2.2.2.1)), (mm, .inl (T 0, 600, .inl u.2.2.2.2.1)), (mk, .inl (T 0, 320, .inl u.2.2.2.2.2))]) 0 0 := by
  refine Met.ofW (cc := cX6_plain) (maxL := 4) (ret := (some .int)) (by decide) rfl ?_
  intro p e s m args below meth c s₁ B hml hv
  obtain ⟨rfl, hsz, hP, hK, hD0, hG⟩ := hv
  have hx := B.exec
  have hb := B.bytes
  have hr := B.returns
  have hts := atoms_spec (ws := wsX6_plain) B.pre
  have hown : s.vm.findClass RX6 = some m.cls := findClass_of_methodNamed B.named
  have hlocks := B.notSynchronized
  subst hsz
  have hD := hD0.self (sz := s.heap.size)
  generalize hAe : va_A [(m0, .inr (3, [.ref mb, .ref ml, .ref mm, .int (nI many), .int th, .ref mk])), (mb, .inl (T 0, 1920, .inl fb)), (ml, .inl (T 0, 6, .inl fl)), (mm, .inl (T 0, 600, .inl fm)), (mk, .inl (T 0, 320, .inl fk))] s.heap.size = A at hD hG ⊢
  have hA : ∀ q : Nat, s.heap.size ≤ q → A q := fun q h => by rw [← hAe]; exact Or.inr h
  have hS : va_S A s.heap s.heap [] := va_S.rf
  have hP : va_P D cls [(m0, .inr (3, [.ref mb, .ref ml, .ref mm, .int (nI many), .int th, .ref mk])), (mb, .inl (T 0, 1920, .inl fb)), (ml, .inl (T 0, 6, .inl fl)), (mm, .inl (T 0, 600, .inl fm)), (mk, .inl (T 0, 320, .inl fk))] s.heap := hP
  have hl := lv_entry ([.ref m0, .int (nI i), .int (nI k)]) (n := 4) (Nat.le_of_ble_eq_true rfl)
  rw [lg_entry_eq]
  generalize (lg_sl ([.ref m0, .int (nI i), .int (nI k)]) ++ List.replicate (4 - (lg_sl ([.ref m0, .int (nI i), .int (nI k)])).length) Slot.unset).toArray = ls at hl ⊢
  have hl : lv_has ls 4 [(0, .ref m0), (1, .int (nI i)), (2, .int (nI k))] := hl
  have hrow := hMR i hi
  have hn := hrow.2.1
  refine lv_aload_n hx hb dX6_plain_0 rfl (lv_at hl 0 rfl) ?_
  refine lv_aload_n hx hb dX6_plain_1 rfl (lv_at hl 0 rfl) ?_
  refine lv_iload_n hx hb dX6_plain_2 rfl (lv_at hl 1 rfl) ?_
  refine ro_V (As := [.int (nI i)]) (rest := [.ref m0]) (wc := []) (r := .int (nI 1)) ⟨hx, hb, hml, hown, hts⟩ (c_X6_isRow_y l D T g m0 i (by omega)) (cwV 1 hts gX6_plain_X6_isRow rfl rfl rfl (by decide +kernel) ⟨Nat.le_of_ble_eq_true rfl, Nat.le_of_ble_eq_true rfl⟩) (va_recv hK hP (ci := 3) (q0 := 0) rfl rfl) hP hK hG hS [] rfl ⟨Nat.zero_le _, Nat.zero_le _⟩ rfl hl.1 (Nat.le_of_ble_eq_true rfl) dX6_plain_3 rfl ?_
  refine ln_if_ne_t (tgt := 13) hx hb (by omega) (by decide) dX6_plain_6 (by decide) ?_
  refine lv_aload_n hx hb dX6_plain_13 rfl (lv_at hl 0 rfl) ?_
  refine lv_iload_n hx hb dX6_plain_14 rfl (lv_at hl 2 rfl) ?_
  refine ro_V (As := [.int (nI k)]) (rest := [.ref m0]) (wc := []) (r := .int (nI 1)) ⟨hx, hb, hml, hown, hts⟩ (c_X6_isKind_y l D T g m0 k (by omega)) (cwV 1 hts gX6_plain_X6_isKind rfl rfl rfl (by decide +kernel) ⟨Nat.le_of_ble_eq_true rfl, Nat.le_of_ble_eq_true rfl⟩) (va_recv hK hP (ci := 3) (q0 := 0) rfl rfl) hP hK hG hS [] rfl ⟨Nat.zero_le _, Nat.zero_le _⟩ rfl hl.1 (Nat.le_of_ble_eq_true rfl) dX6_plain_15 rfl ?_
  refine ln_if_ne_t (tgt := 25) hx hb (by omega) (by decide) dX6_plain_18 (by decide) ?_
  refine lv_iconst (v := (nI 0)) hx hb dX6_plain_25 (by decide +kernel) ?_
  refine mu_V (As := [.int (nI 0)]) (rest := []) (wc := [(m0, .inr (3, [.ref mb, .ref ml, .ref mm, .int (nI many), .int th, .ref mk]))]) (wr := [(mb, .inl (T 0, 1920, .inl fb)), (ml, .inl (T 0, 6, .inl fl)), (mm, .inl (T 0, 600, .inl fm)), (mk, .inl (T 0, 320, .inl fk))]) ⟨hx, hb, hml, hown, hts⟩ (c_X6_isWrong_0 l D T g s.heap.size m0 mb ml mm mk many th) (cwV 1 hts gX6_plain_X6_isWrong rfl rfl rfl (by decide +kernel) ⟨Nat.le_of_ble_eq_true rfl, Nat.le_of_ble_eq_true rfl⟩) (va_recv hK hP (ci := 3) (q0 := 0) rfl rfl) hP hD hK hG hS hA [0] [1, 2, 3, 4] rfl (by decide) rfl (by decide) (by decide) ⟨Nat.le_of_ble_eq_true rfl, Nat.le_of_ble_eq_true rfl⟩ rfl hl.1 (Nat.le_of_ble_eq_true rfl) dX6_plain_26 rfl (fun u H locs hq1 hP hD hS => ?_)
  have hP : va_P D cls [(mb, .inl (T 0, 1920, .inl fb)), (ml, .inl (T 0, 6, .inl fl)), (mm, .inl (T 0, 600, .inl fm)), (mk, .inl (T 0, 320, .inl fk)), (m0, .inr (3, [.ref mb, .ref ml, .ref mm, .int (nI many), .int (nI 0), .ref mk]))] H := hP
  have hD : va_D A [(mb, .inl (T 0, 1920, .inl fb)), (ml, .inl (T 0, 6, .inl fl)), (mm, .inl (T 0, 600, .inl fm)), (mk, .inl (T 0, 320, .inl fk)), (m0, .inr (3, [.ref mb, .ref ml, .ref mm, .int (nI many), .int (nI 0), .ref mk]))] := hD
  refine W.eq (g2 := F0 m 29 ls [.int (nI 0)]) rfl ?_
  refine ln_if_eq_t (tgt := 34) hx hb (by omega) (by decide) dX6_plain_29 (by decide) ?_
  refine lv_aload_n hx hb dX6_plain_34 rfl (lv_at hl 0 rfl) ?_
  refine lv_iload_n hx hb dX6_plain_35 rfl (lv_at hl 1 rfl) ?_
  refine lv_iload_n hx hb dX6_plain_36 rfl (lv_at hl 2 rfl) ?_
  refine ro_V (As := [.int (nI i), .int (nI k)]) (rest := []) (wc := [(m0, .inr (3, [.ref mb, .ref ml, .ref mm, .int (nI many), .int (nI 0), .ref mk])), (ml, .inl (T 0, 6, .inl fl)), (mb, .inl (T 0, 1920, .inl fb))]) (r := .int (tlI k (N i) (Bw i))) ⟨hx, hb, hml, hown, hts⟩ (c_X6_looks l D T g m0 mb ml mm mk many (nI 0) fb fl i (N i) (Bw i) hi ((hMR i hi).1) ((hMR i hi).2) k hk) (cwV 2 hts gX6_plain_X6_looks rfl rfl rfl (by decide +kernel) ⟨Nat.le_of_ble_eq_true rfl, Nat.le_of_ble_eq_true rfl⟩) (va_recv hK hP (ci := 3) (q0 := 4) rfl rfl) hP hK hG hS [4, 1, 0] rfl ⟨Nat.zero_le _, Nat.zero_le _⟩ rfl hl.1 (Nat.le_of_ble_eq_true rfl) dX6_plain_37 rfl ?_
  rw [tl_wrong hw]
  refine lv_istore_n (lv' := [(3, .int (-1)), (0, .ref m0), (1, .int (nI i)), (2, .int (nI k))]) hx hb dX6_plain_40 rfl hl (by decide) rfl (fun ls hl => ?_)
  refine lv_aload_n hx hb dX6_plain_41 rfl (lv_at hl 1 rfl) ?_
  refine lv_iload_n hx hb dX6_plain_42 rfl (lv_at hl 0 rfl) ?_
  refine lv_iconst (v := (-1)) hx hb dX6_plain_43 (by decide +kernel) ?_
  refine lv_icmp_ne (tgt := 51) hx hb dX6_plain_44 (by decide) (fun q9 => absurd (rfl) q9) (fun _ => ?_)
  refine lv_iconst (v := (nI 2)) hx hb dX6_plain_47 (by decide +kernel) ?_
  refine lv_goto (tgt := 62) hx hb dX6_plain_48 (by decide) ?_
  refine mu_V (As := [.int (nI 2)]) (rest := []) (wc := [(m0, .inr (3, [.ref mb, .ref ml, .ref mm, .int (nI many), .int (nI 0), .ref mk]))]) (wr := [(mb, .inl (T 0, 1920, .inl fb)), (ml, .inl (T 0, 6, .inl fl)), (mm, .inl (T 0, 600, .inl fm)), (mk, .inl (T 0, 320, .inl fk))]) ⟨hx, hb, hml, hown, hts⟩ (c_X6_isWrong_p l D T g H.size m0 mb ml mm mk many (nI 0) 2 (by omega)) (cwV 1 hts gX6_plain_X6_isWrong rfl rfl rfl (by decide +kernel) ⟨Nat.le_of_ble_eq_true rfl, Nat.le_of_ble_eq_true rfl⟩) (va_recv hK hP (ci := 3) (q0 := 4) rfl rfl) hP hD hK hG hS hA [4] [0, 1, 2, 3] rfl (by decide) rfl (by decide) (by decide) ⟨Nat.le_of_ble_eq_true rfl, Nat.le_of_ble_eq_true rfl⟩ rfl hl.1 (Nat.le_of_ble_eq_true rfl) dX6_plain_62 rfl (fun u H locs hq2 hP hD hS => ?_)
  have hP : va_P D cls [(mb, .inl (T 0, 1920, .inl fb)), (ml, .inl (T 0, 6, .inl fl)), (mm, .inl (T 0, 600, .inl fm)), (mk, .inl (T 0, 320, .inl fk)), (m0, .inr (3, [.ref mb, .ref ml, .ref mm, .int (nI many), .int (nI 2), .ref mk]))] H := hP
  have hD : va_D A [(mb, .inl (T 0, 1920, .inl fb)), (ml, .inl (T 0, 6, .inl fl)), (mm, .inl (T 0, 600, .inl fm)), (mk, .inl (T 0, 320, .inl fk)), (m0, .inr (3, [.ref mb, .ref ml, .ref mm, .int (nI many), .int (nI 2), .ref mk]))] := hD
  refine W.eq (g2 := F0 m 65 ls [.int (nI 1)]) rfl ?_
  refine ln_if_eq_f (tgt := 70) hx hb (by omega) (by decide) dX6_plain_65 (by decide) ?_
  refine lv_iconst (v := (nI 0)) hx hb dX6_plain_68 (by decide +kernel) ?_
  have hP9 := hP.sub (ws' := [(m0, .inr (3, [.ref mb, .ref ml, .ref mm, .int (nI many), .int (nI 2), .ref mk])), (mb, .inl (T 0, 1920, .inl fb)), (ml, .inl (T 0, 6, .inl fl)), (mm, .inl (T 0, 600, .inl fm)), (mk, .inl (T 0, 320, .inl fk))]) [4, 0, 1, 2, 3] rfl
  have hD9 := hD.sub (ws' := [(m0, .inr (3, [.ref mb, .ref ml, .ref mm, .int (nI many), .int (nI 2), .ref mk])), (mb, .inl (T 0, 1920, .inl fb)), (ml, .inl (T 0, 6, .inl fl)), (mm, .inl (T 0, 600, .inl fm)), (mk, .inl (T 0, 320, .inl fk))]) [4, 0, 1, 2, 3] (by decide) rfl
  exact W.iret (v := (nI 0)) hx hb hr (fun t ht hW => ⟨⟨(many, (nI 2), fb, fl, fm, fk), rfl, show (nI 2) = nI 2 ∧ MR fl fb (N) (Bw) from ⟨rfl, hMR⟩, (by rw [ht]; exact hP9), va_K.moved hW.alike hK, hD9⟩, hS.F ht⟩) hS.2.2 dX6_plain_69
set_option maxHeartbeats 4000000 in
set_option maxRecDepth 100000 in
theorem m_plain_5 (l : Launch) (D : va_G) (T : Nat → ClassId) (g : Nat → Nat) (sz : Nat) (m0 : Nat) (mb : Nat) (ml : Nat) (mm : Nat) (mk : Nat) (many : Nat) (th : Int32) (fb : Nat → Int32) (fl : Nat → Int32) (fm : Nat → Int32) (fk : Nat → Int32) (N : Nat → Nat) (Bw : Nat → Nat → Nat) (hMR : MR fl fb N Bw) (i : Nat) (hi : i < 6) (k : Nat) (hk : k < 3) (hw : wroB k (N i) (Bw i) = false) (hu : untB k (N i) (Bw i) = true) : MU l yX6_plain wsX6_plain ({ frames := 60, cells := 0, slots := 0, locals := 3000 } : Room) D T g [.ref m0, .int (nI i), .int (nI k)] [(m0, .inr (3, [.ref mb, .ref ml, .ref mm, .int (nI many), .int th, .ref mk])), (mb, .inl (T 0, 1920, .inl fb)), (ml, .inl (T 0, 6, .inl fl)), (mm, .inl (T 0, 600, .inl fm)), (mk, .inl (T 0, 320, .inl fk))] sz (fun u : Nat × Int32 × (Nat → Int32) × (Nat → Int32) × (Nat → Int32) × (Nat → Int32) => some (.int (nI 0))) (fun u : Nat × Int32 × (Nat → Int32) × (Nat → Int32) × (Nat → Int32) × (Nat → Int32) => u.2.1 = nI 3 ∧ MR u.2.2.2.1 u.2.2.1 (N) (Bw)) (fun u : Nat × Int32 × (Nat → Int32) × (Nat → Int32) × (Nat → Int32) × (Nat → Int32) => [(m0, .inr (3, [.ref mb, .ref ml, .ref mm, .int (nI u.1), .int u.2.1, .ref mk])), (mb, .inl (T 0, 1920, .inl u.2.2.1)), (ml, .inl (T 0, 6, .inl u.2.2.2.1)), (mm, .inl (T 0, 600, .inl u.2.2.2.2.1)), (mk, .inl (T 0, 320, .inl u.2.2.2.2.2))]) 0 0 := by
  refine Met.ofW (cc := cX6_plain) (maxL := 4) (ret := (some .int)) (by decide) rfl ?_
  intro p e s m args below meth c s₁ B hml hv
  obtain ⟨rfl, hsz, hP, hK, hD0, hG⟩ := hv
  have hx := B.exec
  have hb := B.bytes
  have hr := B.returns
  have hts := atoms_spec (ws := wsX6_plain) B.pre
  have hown : s.vm.findClass RX6 = some m.cls := findClass_of_methodNamed B.named
  have hlocks := B.notSynchronized
  subst hsz
  have hD := hD0.self (sz := s.heap.size)
  generalize hAe : va_A [(m0, .inr (3, [.ref mb, .ref ml, .ref mm, .int (nI many), .int th, .ref mk])), (mb, .inl (T 0, 1920, .inl fb)), (ml, .inl (T 0, 6, .inl fl)), (mm, .inl (T 0, 600, .inl fm)), (mk, .inl (T 0, 320, .inl fk))] s.heap.size = A at hD hG ⊢
  have hA : ∀ q : Nat, s.heap.size ≤ q → A q := fun q h => by rw [← hAe]; exact Or.inr h
  have hS : va_S A s.heap s.heap [] := va_S.rf
  have hP : va_P D cls [(m0, .inr (3, [.ref mb, .ref ml, .ref mm, .int (nI many), .int th, .ref mk])), (mb, .inl (T 0, 1920, .inl fb)), (ml, .inl (T 0, 6, .inl fl)), (mm, .inl (T 0, 600, .inl fm)), (mk, .inl (T 0, 320, .inl fk))] s.heap := hP
  have hl := lv_entry ([.ref m0, .int (nI i), .int (nI k)]) (n := 4) (Nat.le_of_ble_eq_true rfl)
  rw [lg_entry_eq]
  generalize (lg_sl ([.ref m0, .int (nI i), .int (nI k)]) ++ List.replicate (4 - (lg_sl ([.ref m0, .int (nI i), .int (nI k)])).length) Slot.unset).toArray = ls at hl ⊢
  have hl : lv_has ls 4 [(0, .ref m0), (1, .int (nI i)), (2, .int (nI k))] := hl
  have hrow := hMR i hi
  have hn := hrow.2.1
  refine lv_aload_n hx hb dX6_plain_0 rfl (lv_at hl 0 rfl) ?_
  refine lv_aload_n hx hb dX6_plain_1 rfl (lv_at hl 0 rfl) ?_
  refine lv_iload_n hx hb dX6_plain_2 rfl (lv_at hl 1 rfl) ?_
  refine ro_V (As := [.int (nI i)]) (rest := [.ref m0]) (wc := []) (r := .int (nI 1)) ⟨hx, hb, hml, hown, hts⟩ (c_X6_isRow_y l D T g m0 i (by omega)) (cwV 1 hts gX6_plain_X6_isRow rfl rfl rfl (by decide +kernel) ⟨Nat.le_of_ble_eq_true rfl, Nat.le_of_ble_eq_true rfl⟩) (va_recv hK hP (ci := 3) (q0 := 0) rfl rfl) hP hK hG hS [] rfl ⟨Nat.zero_le _, Nat.zero_le _⟩ rfl hl.1 (Nat.le_of_ble_eq_true rfl) dX6_plain_3 rfl ?_
  refine ln_if_ne_t (tgt := 13) hx hb (by omega) (by decide) dX6_plain_6 (by decide) ?_
  refine lv_aload_n hx hb dX6_plain_13 rfl (lv_at hl 0 rfl) ?_
  refine lv_iload_n hx hb dX6_plain_14 rfl (lv_at hl 2 rfl) ?_
  refine ro_V (As := [.int (nI k)]) (rest := [.ref m0]) (wc := []) (r := .int (nI 1)) ⟨hx, hb, hml, hown, hts⟩ (c_X6_isKind_y l D T g m0 k (by omega)) (cwV 1 hts gX6_plain_X6_isKind rfl rfl rfl (by decide +kernel) ⟨Nat.le_of_ble_eq_true rfl, Nat.le_of_ble_eq_true rfl⟩) (va_recv hK hP (ci := 3) (q0 := 0) rfl rfl) hP hK hG hS [] rfl ⟨Nat.zero_le _, Nat.zero_le _⟩ rfl hl.1 (Nat.le_of_ble_eq_true rfl) dX6_plain_15 rfl ?_
  refine ln_if_ne_t (tgt := 25) hx hb (by omega) (by decide) dX6_plain_18 (by decide) ?_
  refine lv_iconst (v := (nI 0)) hx hb dX6_plain_25 (by decide +kernel) ?_
  refine mu_V (As := [.int (nI 0)]) (rest := []) (wc := [(m0, .inr (3, [.ref mb, .ref ml, .ref mm, .int (nI many), .int th, .ref mk]))]) (wr := [(mb, .inl (T 0, 1920, .inl fb)), (ml, .inl (T 0, 6, .inl fl)), (mm, .inl (T 0, 600, .inl fm)), (mk, .inl (T 0, 320, .inl fk))]) ⟨hx, hb, hml, hown, hts⟩ (c_X6_isWrong_0 l D T g s.heap.size m0 mb ml mm mk many th) (cwV 1 hts gX6_plain_X6_isWrong rfl rfl rfl (by decide +kernel) ⟨Nat.le_of_ble_eq_true rfl, Nat.le_of_ble_eq_true rfl⟩) (va_recv hK hP (ci := 3) (q0 := 0) rfl rfl) hP hD hK hG hS hA [0] [1, 2, 3, 4] rfl (by decide) rfl (by decide) (by decide) ⟨Nat.le_of_ble_eq_true rfl, Nat.le_of_ble_eq_true rfl⟩ rfl hl.1 (Nat.le_of_ble_eq_true rfl) dX6_plain_26 rfl (fun u H locs hq1 hP hD hS => ?_)
  have hP : va_P D cls [(mb, .inl (T 0, 1920, .inl fb)), (ml, .inl (T 0, 6, .inl fl)), (mm, .inl (T 0, 600, .inl fm)), (mk, .inl (T 0, 320, .inl fk)), (m0, .inr (3, [.ref mb, .ref ml, .ref mm, .int (nI many), .int (nI 0), .ref mk]))] H := hP
  have hD : va_D A [(mb, .inl (T 0, 1920, .inl fb)), (ml, .inl (T 0, 6, .inl fl)), (mm, .inl (T 0, 600, .inl fm)), (mk, .inl (T 0, 320, .inl fk)), (m0, .inr (3, [.ref mb, .ref ml, .ref mm, .int (nI many), .int (nI 0), .ref mk]))] := hD
  refine W.eq (g2 := F0 m 29 ls [.int (nI 0)]) rfl ?_
  refine ln_if_eq_t (tgt := 34) hx hb (by omega) (by decide) dX6_plain_29 (by decide) ?_
  refine lv_aload_n hx hb dX6_plain_34 rfl (lv_at hl 0 rfl) ?_
  refine lv_iload_n hx hb dX6_plain_35 rfl (lv_at hl 1 rfl) ?_
  refine lv_iload_n hx hb dX6_plain_36 rfl (lv_at hl 2 rfl) ?_
  refine ro_V (As := [.int (nI i), .int (nI k)]) (rest := []) (wc := [(m0, .inr (3, [.ref mb, .ref ml, .ref mm, .int (nI many), .int (nI 0), .ref mk])), (ml, .inl (T 0, 6, .inl fl)), (mb, .inl (T 0, 1920, .inl fb))]) (r := .int (tlI k (N i) (Bw i))) ⟨hx, hb, hml, hown, hts⟩ (c_X6_looks l D T g m0 mb ml mm mk many (nI 0) fb fl i (N i) (Bw i) hi ((hMR i hi).1) ((hMR i hi).2) k hk) (cwV 2 hts gX6_plain_X6_looks rfl rfl rfl (by decide +kernel) ⟨Nat.le_of_ble_eq_true rfl, Nat.le_of_ble_eq_true rfl⟩) (va_recv hK hP (ci := 3) (q0 := 4) rfl rfl) hP hK hG hS [4, 1, 0] rfl ⟨Nat.zero_le _, Nat.zero_le _⟩ rfl hl.1 (Nat.le_of_ble_eq_true rfl) dX6_plain_37 rfl ?_
  rw [tl_unt hw hu]
  refine lv_istore_n (lv' := [(3, .int (-2)), (0, .ref m0), (1, .int (nI i)), (2, .int (nI k))]) hx hb dX6_plain_40 rfl hl (by decide) rfl (fun ls hl => ?_)
  refine lv_aload_n hx hb dX6_plain_41 rfl (lv_at hl 1 rfl) ?_
  refine lv_iload_n hx hb dX6_plain_42 rfl (lv_at hl 0 rfl) ?_
  refine lv_iconst (v := (-1)) hx hb dX6_plain_43 (by decide +kernel) ?_
  refine lv_icmp_ne (tgt := 51) hx hb dX6_plain_44 (by decide) (fun _ => ?_) (fun q9 => absurd q9 (by decide))
  refine lv_iload_n hx hb dX6_plain_51 rfl (lv_at hl 0 rfl) ?_
  refine lv_bipush (v := (-2)) hx hb dX6_plain_52 (by decide +kernel) ?_
  refine lv_icmp_ne (tgt := 61) hx hb dX6_plain_54 (by decide) (fun q9 => absurd (rfl) q9) (fun _ => ?_)
  refine lv_iconst (v := (nI 3)) hx hb dX6_plain_57 (by decide +kernel) ?_
  refine lv_goto (tgt := 62) hx hb dX6_plain_58 (by decide) ?_
  refine mu_V (As := [.int (nI 3)]) (rest := []) (wc := [(m0, .inr (3, [.ref mb, .ref ml, .ref mm, .int (nI many), .int (nI 0), .ref mk]))]) (wr := [(mb, .inl (T 0, 1920, .inl fb)), (ml, .inl (T 0, 6, .inl fl)), (mm, .inl (T 0, 600, .inl fm)), (mk, .inl (T 0, 320, .inl fk))]) ⟨hx, hb, hml, hown, hts⟩ (c_X6_isWrong_p l D T g H.size m0 mb ml mm mk many (nI 0) 3 (by omega)) (cwV 1 hts gX6_plain_X6_isWrong rfl rfl rfl (by decide +kernel) ⟨Nat.le_of_ble_eq_true rfl, Nat.le_of_ble_eq_true rfl⟩) (va_recv hK hP (ci := 3) (q0 := 4) rfl rfl) hP hD hK hG hS hA [4] [0, 1, 2, 3] rfl (by decide) rfl (by decide) (by decide) ⟨Nat.le_of_ble_eq_true rfl, Nat.le_of_ble_eq_true rfl⟩ rfl hl.1 (Nat.le_of_ble_eq_true rfl) dX6_plain_62 rfl (fun u H locs hq2 hP hD hS => ?_)
  have hP : va_P D cls [(mb, .inl (T 0, 1920, .inl fb)), (ml, .inl (T 0, 6, .inl fl)), (mm, .inl (T 0, 600, .inl fm)), (mk, .inl (T 0, 320, .inl fk)), (m0, .inr (3, [.ref mb, .ref ml, .ref mm, .int (nI many), .int (nI 3), .ref mk]))] H := hP
  have hD : va_D A [(mb, .inl (T 0, 1920, .inl fb)), (ml, .inl (T 0, 6, .inl fl)), (mm, .inl (T 0, 600, .inl fm)), (mk, .inl (T 0, 320, .inl fk)), (m0, .inr (3, [.ref mb, .ref ml, .ref mm, .int (nI many), .int (nI 3), .ref mk]))] := hD
  refine W.eq (g2 := F0 m 65 ls [.int (nI 1)]) rfl ?_
  refine ln_if_eq_f (tgt := 70) hx hb (by omega) (by decide) dX6_plain_65 (by decide) ?_
  refine lv_iconst (v := (nI 0)) hx hb dX6_plain_68 (by decide +kernel) ?_
  have hP9 := hP.sub (ws' := [(m0, .inr (3, [.ref mb, .ref ml, .ref mm, .int (nI many), .int (nI 3), .ref mk])), (mb, .inl (T 0, 1920, .inl fb)), (ml, .inl (T 0, 6, .inl fl)), (mm, .inl (T 0, 600, .inl fm)), (mk, .inl (T 0, 320, .inl fk))]) [4, 0, 1, 2, 3] rfl
  have hD9 := hD.sub (ws' := [(m0, .inr (3, [.ref mb, .ref ml, .ref mm, .int (nI many), .int (nI 3), .ref mk])), (mb, .inl (T 0, 1920, .inl fb)), (ml, .inl (T 0, 6, .inl fl)), (mm, .inl (T 0, 600, .inl fm)), (mk, .inl (T 0, 320, .inl fk))]) [4, 0, 1, 2, 3] (by decide) rfl
  exact W.iret (v := (nI 0)) hx hb hr (fun t ht hW => ⟨⟨(many, (nI 3), fb, fl, fm, fk), rfl, show (nI 3) = nI 3 ∧ MR fl fb (N) (Bw) from ⟨rfl, hMR⟩, (by rw [ht]; exact hP9), va_K.moved hW.alike hK, hD9⟩, hS.F ht⟩) hS.2.2 dX6_plain_69
