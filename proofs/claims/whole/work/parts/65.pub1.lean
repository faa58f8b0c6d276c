theorem MR_N {fl fb : Nat → Int32} {N N' : Nat → Nat} {Bw Bw' : Nat → Nat → Nat} (h : MR fl fb N Bw) (h1 : ∀ i, i < 6 → N' i = N i) (h2 : ∀ i, i < 6 → Bw' i = Bw i) : MR fl fb N' Bw' := fun i hi => by rw [h1 i hi, h2 i hi]; exact h i hi
theorem sb_toInt {n x : Nat} (hn : n ≤ 320) (hx : x < 2 ^ 31) : (nI n - nI x).toInt = (n : Int) - x := by
  rw [Int32.toInt_sub, nI_toInt (by omega), nI_toInt hx]
  exact Int.bmod_eq_of_le (by omega) (by omega)
theorem rem_ok {n w7 m : Nat} (hn : n ≤ 320) (hp : w7 < 2 ^ 31) (hm : m < 2 ^ 31) : (nI n - nI m < nI w7 ↔ n < w7 + m) ∧ (nI m ≤ nI n - nI w7 ↔ w7 + m ≤ n) := by
  constructor
  · rw [Int32.lt_iff_toInt_lt, sb_toInt hn hm, nI_toInt hp]; omega
  · rw [Int32.le_iff_toInt_le, sb_toInt hn hp, nI_toInt hm]; omega
set_option maxHeartbeats 4000000 in
set_option maxRecDepth 100000 in
theorem m_add_1 (l : Launch) (D : va_G) (T : Nat → ClassId) (g : Nat → Nat) (sz : Nat) (m0 : Nat) (mb : Nat) (ml : Nat) (mm : Nat) (mk : Nat) (many : Nat) (th : Int32) (fb : Nat → Int32) (fl : Nat → Int32) (fm : Nat → Int32) (fk : Nat → Int32) (N : Nat → Nat) (Bw : Nat → Nat → Nat) (hMR : MR fl fb N Bw) (i : Int32) (hi : i < 0 ∨ nI 5 < i) (x0 : Int32) : MU l yX6_add wsX6_add ({ frames := 60, cells := 0, slots := 0, locals := 3000 } : Room) D T g [.ref m0, .int i, .int x0] [(m0, .inr (3, [.ref mb, .ref ml, .ref mm, .int (nI many), .int th, .ref mk])), (mb, .inl (T 0, 1920, .inl fb)), (ml, .inl (T 0, 6, .inl fl)), (mm, .inl (T 0, 600, .inl fm)), (mk, .inl (T 0, 320, .inl fk))] sz (fun u : Nat × Int32 × (Nat → Int32) × (Nat → Int32) × (Nat → Int32) × (Nat → Int32) => some (.int (nI 0))) (fun u : Nat × Int32 × (Nat → Int32) × (Nat → Int32) × (Nat → Int32) × (Nat → Int32) => u.2.1 = nI 1 ∧ MR u.2.2.2.1 u.2.2.1 (N) (Bw)) (fun u : Nat × Int32 × (Nat → Int32) × (Nat → Int32) × (Nat → Int32) × (Nat → Int32) => [(m0, .inr (3, [.ref mb, .ref ml, .ref mm, .int (nI u.1), .int u.2.1, .ref mk])), (mb, .inl (T 0, 1920, .inl u.2.2.1)), (ml, .inl (T 0, 6, .inl u.2.2.2.1)), (mm, .inl (T 0, 600, .inl u.2.2.2.2.1)), (mk, .inl (T 0, 320, .inl u.2.2.2.2.2))]) 0 0 := by
  refine Met.ofW (cc := cX6_add) (maxL := 3) (ret := (some .int)) (by decide) rfl ?_
  intro p e s m args below meth c s₁ B hml hv
  obtain ⟨rfl, hsz, hP, hK, hD0, hG⟩ := hv
  have hx := B.exec
  have hb := B.bytes
  have hr := B.returns
  have hts := atoms_spec (ws := wsX6_add) B.pre
  have hown : s.vm.findClass RX6 = some m.cls := findClass_of_methodNamed B.named
  have hlocks := B.notSynchronized
  subst hsz
  have hD := hD0.self (sz := s.heap.size)
  generalize hAe : va_A [(m0, .inr (3, [.ref mb, .ref ml, .ref mm, .int (nI many), .int th, .ref mk])), (mb, .inl (T 0, 1920, .inl fb)), (ml, .inl (T 0, 6, .inl fl)), (mm, .inl (T 0, 600, .inl fm)), (mk, .inl (T 0, 320, .inl fk))] s.heap.size = A at hD hG ⊢
  have hA : ∀ q : Nat, s.heap.size ≤ q → A q := fun q h => by rw [← hAe]; exact Or.inr h
  have hS : va_S A s.heap s.heap [] := va_S.rf
  have hP : va_P D cls [(m0, .inr (3, [.ref mb, .ref ml, .ref mm, .int (nI many), .int th, .ref mk])), (mb, .inl (T 0, 1920, .inl fb)), (ml, .inl (T 0, 6, .inl fl)), (mm, .inl (T 0, 600, .inl fm)), (mk, .inl (T 0, 320, .inl fk))] s.heap := hP
  have hl := lv_entry ([.ref m0, .int i, .int x0]) (n := 3) (Nat.le_of_ble_eq_true rfl)
  rw [lg_entry_eq]
  generalize (lg_sl ([.ref m0, .int i, .int x0]) ++ List.replicate (3 - (lg_sl ([.ref m0, .int i, .int x0])).length) Slot.unset).toArray = ls at hl ⊢
  have hl : lv_has ls 3 [(0, .ref m0), (1, .int i), (2, .int x0)] := hl
  refine lv_aload_n hx hb dX6_add_0 rfl (lv_at hl 0 rfl) ?_
  refine lv_aload_n hx hb dX6_add_1 rfl (lv_at hl 0 rfl) ?_
  refine lv_iload_n hx hb dX6_add_2 rfl (lv_at hl 1 rfl) ?_
  refine ro_V (As := [.int i]) (rest := [.ref m0]) (wc := []) (r := .int (nI 0)) ⟨hx, hb, hml, hown, hts⟩ (c_X6_isRow_n l D T g m0 i hi) (cwV 1 hts gX6_add_X6_isRow rfl rfl rfl (by decide +kernel) ⟨Nat.le_of_ble_eq_true rfl, Nat.le_of_ble_eq_true rfl⟩) (va_recv hK hP (ci := 3) (q0 := 0) rfl rfl) hP hK hG hS [] rfl ⟨Nat.zero_le _, Nat.zero_le _⟩ rfl hl.1 (Nat.le_of_ble_eq_true rfl) dX6_add_3 rfl ?_
  refine ln_if_ne_f (tgt := 13) hx hb (by omega) (by decide) dX6_add_6 (by decide) ?_
  refine lv_iconst (v := (nI 1)) hx hb dX6_add_9 (by decide +kernel) ?_
  refine lv_goto (tgt := 42) hx hb dX6_add_10 (by decide) ?_
  refine mu_V (As := [.int (nI 1)]) (rest := []) (wc := [(m0, .inr (3, [.ref mb, .ref ml, .ref mm, .int (nI many), .int th, .ref mk]))]) (wr := [(mb, .inl (T 0, 1920, .inl fb)), (ml, .inl (T 0, 6, .inl fl)), (mm, .inl (T 0, 600, .inl fm)), (mk, .inl (T 0, 320, .inl fk))]) ⟨hx, hb, hml, hown, hts⟩ (c_X6_isWrong_p l D T g s.heap.size m0 mb ml mm mk many th 1 (by omega)) (cwV 1 hts gX6_add_X6_isWrong rfl rfl rfl (by decide +kernel) ⟨Nat.le_of_ble_eq_true rfl, Nat.le_of_ble_eq_true rfl⟩) (va_recv hK hP (ci := 3) (q0 := 0) rfl rfl) hP hD hK hG hS hA [0] [1, 2, 3, 4] rfl (by decide) rfl (by decide) (by decide) ⟨Nat.le_of_ble_eq_true rfl, Nat.le_of_ble_eq_true rfl⟩ rfl hl.1 (Nat.le_of_ble_eq_true rfl) dX6_add_42 rfl (fun u H locs hq1 hP hD hS => ?_)
  have hP : va_P D cls [(mb, .inl (T 0, 1920, .inl fb)), (ml, .inl (T 0, 6, .inl fl)), (mm, .inl (T 0, 600, .inl fm)), (mk, .inl (T 0, 320, .inl fk)), (m0, .inr (3, [.ref mb, .ref ml, .ref mm, .int (nI many), .int (nI 1), .ref mk]))] H := hP
  have hD : va_D A [(mb, .inl (T 0, 1920, .inl fb)), (ml, .inl (T 0, 6, .inl fl)), (mm, .inl (T 0, 600, .inl fm)), (mk, .inl (T 0, 320, .inl fk)), (m0, .inr (3, [.ref mb, .ref ml, .ref mm, .int (nI many), .int (nI 1), .ref mk]))] := hD
  refine W.eq (g2 := F0 m 45 ls [.int (nI 1)]) rfl ?_
  refine ln_if_eq_f (tgt := 50) hx hb (by omega) (by decide) dX6_add_45 (by decide) ?_
  refine lv_iconst (v := (nI 0)) hx hb dX6_add_48 (by decide +kernel) ?_
  have hP9 := hP.sub (ws' := [(m0, .inr (3, [.ref mb, .ref ml, .ref mm, .int (nI many), .int (nI 1), .ref mk])), (mb, .inl (T 0, 1920, .inl fb)), (ml, .inl (T 0, 6, .inl fl)), (mm, .inl (T 0, 600, .inl fm)), (mk, .inl (T 0, 320, .inl fk))]) [4, 0, 1, 2, 3] rfl
  have hD9 := hD.sub (ws' := [(m0, .inr (3, [.ref mb, .ref ml, .ref mm, .int (nI many), .int (nI 1), .ref mk])), (mb, .inl (T 0, 1920, .inl fb)), (ml, .inl (T 0, 6, .inl fl)), (mm, .inl (T 0, 600, .inl fm)), (mk, .inl (T 0, 320, .inl fk))]) [4, 0, 1, 2, 3] (by decide) rfl
  exact W.iret (v := (nI 0)) hx hb hr (fun t ht hW => ⟨⟨(many, (nI 1), fb, fl, fm, fk), rfl, show (nI 1) = nI 1 ∧ MR fl fb (N) (Bw) from ⟨rfl, hMR⟩, (by rw [ht]; exact hP9), va_K.moved hW.alike hK, hD9⟩, hS.F ht⟩) hS.2.2 dX6_add_49
set_option maxHeartbeats 4000000 in
set_option maxRecDepth 100000 in
theorem m_add_2 (l : Launch) (D : va_G) (T : Nat → ClassId) (g : Nat → Nat) (sz : Nat) (m0 : Nat) (mb : Nat) (ml : Nat) (mm : Nat) (mk : Nat) (many : Nat) (th : Int32) (fb : Nat → Int32) (fl : Nat → Int32) (fm : Nat → Int32) (fk : Nat → Int32) (N : Nat → Nat) (Bw : Nat → Nat → Nat) (hMR : MR fl fb N Bw) (i : Nat) (hi : i < 6) (v : Int32) (hv : v < 0 ∨ nI 255 < v) : MU l yX6_add wsX6_add ({ frames := 60, cells := 0, slots := 0, locals := 3000 } : Room) D T g [.ref m0, .int (nI i), .int v] [(m0, .inr (3, [.ref mb, .ref ml, .ref mm, .int (nI many), .int th, .ref mk])), (mb, .inl (T 0, 1920, .inl fb)), (ml, .inl (T 0, 6, .inl fl)), (mm, .inl (T 0, 600, .inl fm)), (mk, .inl (T 0, 320, .inl fk))] sz (fun u : Nat × Int32 × (Nat → Int32) × (Nat → Int32) × (Nat → Int32) × (Nat → Int32) => some (.int (nI 0))) (fun u : Nat × Int32 × (Nat → Int32) × (Nat → Int32) × (Nat → Int32) × (Nat → Int32) => u.2.1 = nI 2 ∧ MR u.2.2.2.1 u.2.2.1 (N) (Bw)) (fun u : Nat × Int32 × (Nat → Int32) × (Nat → Int32) × (Nat → Int32) × (Nat → Int32) => [(m0, .inr (3, [.ref mb, .ref ml, .ref mm, .int (nI u.1), .int u.2.1, .ref mk])), (mb, .inl (T 0, 1920, .inl u.2.2.1)), (ml, .inl (T 0, 6, .inl u.2.2.2.1)), (mm, .inl (T 0, 600, .inl u.2.2.2.2.1)), (mk, .inl (T 0, 320, .inl u.2.2.2.2.2))]) 0 0 := by
  refine Met.ofW (cc := cX6_add) (maxL := 3) (ret := (some .int)) (by decide) rfl ?_
  intro p e s m args below meth c s₁ B hml hv
  obtain ⟨rfl, hsz, hP, hK, hD0, hG⟩ := hv
  have hx := B.exec
  have hb := B.bytes
  have hr := B.returns
  have hts := atoms_spec (ws := wsX6_add) B.pre
  have hown : s.vm.findClass RX6 = some m.cls := findClass_of_methodNamed B.named
  have hlocks := B.notSynchronized
  subst hsz
  have hD := hD0.self (sz := s.heap.size)
  generalize hAe : va_A [(m0, .inr (3, [.ref mb, .ref ml, .ref mm, .int (nI many), .int th, .ref mk])), (mb, .inl (T 0, 1920, .inl fb)), (ml, .inl (T 0, 6, .inl fl)), (mm, .inl (T 0, 600, .inl fm)), (mk, .inl (T 0, 320, .inl fk))] s.heap.size = A at hD hG ⊢
  have hA : ∀ q : Nat, s.heap.size ≤ q → A q := fun q h => by rw [← hAe]; exact Or.inr h
  have hS : va_S A s.heap s.heap [] := va_S.rf
  have hP : va_P D cls [(m0, .inr (3, [.ref mb, .ref ml, .ref mm, .int (nI many), .int th, .ref mk])), (mb, .inl (T 0, 1920, .inl fb)), (ml, .inl (T 0, 6, .inl fl)), (mm, .inl (T 0, 600, .inl fm)), (mk, .inl (T 0, 320, .inl fk))] s.heap := hP
  have hl := lv_entry ([.ref m0, .int (nI i), .int v]) (n := 3) (Nat.le_of_ble_eq_true rfl)
  rw [lg_entry_eq]
  generalize (lg_sl ([.ref m0, .int (nI i), .int v]) ++ List.replicate (3 - (lg_sl ([.ref m0, .int (nI i), .int v])).length) Slot.unset).toArray = ls at hl ⊢
  have hl : lv_has ls 3 [(0, .ref m0), (1, .int (nI i)), (2, .int v)] := hl
  refine lv_aload_n hx hb dX6_add_0 rfl (lv_at hl 0 rfl) ?_
  refine lv_aload_n hx hb dX6_add_1 rfl (lv_at hl 0 rfl) ?_
  refine lv_iload_n hx hb dX6_add_2 rfl (lv_at hl 1 rfl) ?_
  refine ro_V (As := [.int (nI i)]) (rest := [.ref m0]) (wc := []) (r := .int (nI 1)) ⟨hx, hb, hml, hown, hts⟩ (c_X6_isRow_y l D T g m0 i (by omega)) (cwV 1 hts gX6_add_X6_isRow rfl rfl rfl (by decide +kernel) ⟨Nat.le_of_ble_eq_true rfl, Nat.le_of_ble_eq_true rfl⟩) (va_recv hK hP (ci := 3) (q0 := 0) rfl rfl) hP hK hG hS [] rfl ⟨Nat.zero_le _, Nat.zero_le _⟩ rfl hl.1 (Nat.le_of_ble_eq_true rfl) dX6_add_3 rfl ?_
  refine ln_if_ne_t (tgt := 13) hx hb (by omega) (by decide) dX6_add_6 (by decide) ?_
  refine lv_aload_n hx hb dX6_add_13 rfl (lv_at hl 0 rfl) ?_
  refine lv_iload_n hx hb dX6_add_14 rfl (lv_at hl 2 rfl) ?_
  refine ro_V (As := [.int v]) (rest := [.ref m0]) (wc := []) (r := .int (nI 0)) ⟨hx, hb, hml, hown, hts⟩ (c_X6_isByte_n l D T g m0 v hv) (cwV 1 hts gX6_add_X6_isByte rfl rfl rfl (by decide +kernel) ⟨Nat.le_of_ble_eq_true rfl, Nat.le_of_ble_eq_true rfl⟩) (va_recv hK hP (ci := 3) (q0 := 0) rfl rfl) hP hK hG hS [] rfl ⟨Nat.zero_le _, Nat.zero_le _⟩ rfl hl.1 (Nat.le_of_ble_eq_true rfl) dX6_add_15 rfl ?_
  refine ln_if_ne_f (tgt := 25) hx hb (by omega) (by decide) dX6_add_18 (by decide) ?_
  refine lv_iconst (v := (nI 2)) hx hb dX6_add_21 (by decide +kernel) ?_
  refine lv_goto (tgt := 42) hx hb dX6_add_22 (by decide) ?_
  refine mu_V (As := [.int (nI 2)]) (rest := []) (wc := [(m0, .inr (3, [.ref mb, .ref ml, .ref mm, .int (nI many), .int th, .ref mk]))]) (wr := [(mb, .inl (T 0, 1920, .inl fb)), (ml, .inl (T 0, 6, .inl fl)), (mm, .inl (T 0, 600, .inl fm)), (mk, .inl (T 0, 320, .inl fk))]) ⟨hx, hb, hml, hown, hts⟩ (c_X6_isWrong_p l D T g s.heap.size m0 mb ml mm mk many th 2 (by omega)) (cwV 1 hts gX6_add_X6_isWrong rfl rfl rfl (by decide +kernel) ⟨Nat.le_of_ble_eq_true rfl, Nat.le_of_ble_eq_true rfl⟩) (va_recv hK hP (ci := 3) (q0 := 0) rfl rfl) hP hD hK hG hS hA [0] [1, 2, 3, 4] rfl (by decide) rfl (by decide) (by decide) ⟨Nat.le_of_ble_eq_true rfl, Nat.le_of_ble_eq_true rfl⟩ rfl hl.1 (Nat.le_of_ble_eq_true rfl) dX6_add_42 rfl (fun u H locs hq1 hP hD hS => ?_)
  have hP : va_P D cls [(mb, .inl (T 0, 1920, .inl fb)), (ml, .inl (T 0, 6, .inl fl)), (mm, .inl (T 0, 600, .inl fm)), (mk, .inl (T 0, 320, .inl fk)), (m0, .inr (3, [.ref mb, .ref ml, .ref mm, .int (nI many), .int (nI 2), .ref mk]))] H := hP
  have hD : va_D A [(mb, .inl (T 0, 1920, .inl fb)), (ml, .inl (T 0, 6, .inl fl)), (mm, .inl (T 0, 600, .inl fm)), (mk, .inl (T 0, 320, .inl fk)), (m0, .inr (3, [.ref mb, .ref ml, .ref mm, .int (nI many), .int (nI 2), .ref mk]))] := hD
  refine W.eq (g2 := F0 m 45 ls [.int (nI 1)]) rfl ?_
  refine ln_if_eq_f (tgt := 50) hx hb (by omega) (by decide) dX6_add_45 (by decide) ?_
  refine lv_iconst (v := (nI 0)) hx hb dX6_add_48 (by decide +kernel) ?_
  have hP9 := hP.sub (ws' := [(m0, .inr (3, [.ref mb, .ref ml, .ref mm, .int (nI many), .int (nI 2), .ref mk])), (mb, .inl (T 0, 1920, .inl fb)), (ml, .inl (T 0, 6, .inl fl)), (mm, .inl (T 0, 600, .inl fm)), (mk, .inl (T 0, 320, .inl fk))]) [4, 0, 1, 2, 3] rfl
  have hD9 := hD.sub (ws' := [(m0, .inr (3, [.ref mb, .ref ml, .ref mm, .int (nI many), .int (nI 2), .ref mk])), (mb, .inl (T 0, 1920, .inl fb)), (ml, .inl (T 0, 6, .inl fl)), (mm, .inl (T 0, 600, .inl fm)), (mk, .inl (T 0, 320, .inl fk))]) [4, 0, 1, 2, 3] (by decide) rfl
  exact W.iret (v := (nI 0)) hx hb hr (fun t ht hW => ⟨⟨(many, (nI 2), fb, fl, fm, fk), rfl, show (nI 2) = nI 2 ∧ MR fl fb (N) (Bw) from ⟨rfl, hMR⟩, (by rw [ht]; exact hP9), va_K.moved hW.alike hK, hD9⟩, hS.F ht⟩) hS.2.2 dX6_add_49
set_option maxHeartbeats 4000000 in
set_option maxRecDepth 100000 in
theorem m_add_3 (l : Launch) (D : va_G) (T : Nat → ClassId) (g : Nat → Nat) (sz : Nat) (m0 : Nat) (mb : Nat) (ml : Nat) (mm : Nat) (mk : Nat) (many : Nat) (th : Int32) (fb : Nat → Int32) (fl : Nat → Int32) (fm : Nat → Int32) (fk : Nat → Int32) (N : Nat → Nat) (Bw : Nat → Nat → Nat) (hMR : MR fl fb N Bw) (i : Nat) (hi : i < 6) (v : Nat) (hv : v < 256) (hf : N i = 320) : MU l yX6_add wsX6_add ({ frames := 60, cells := 0, slots := 0, locals := 3000 } : Room) D T g [.ref m0, .int (nI i), .int (nI v)] [(m0, .inr (3, [.ref mb, .ref ml, .ref mm, .int (nI many), .int th, .ref mk])), (mb, .inl (T 0, 1920, .inl fb)), (ml, .inl (T 0, 6, .inl fl)), (mm, .inl (T 0, 600, .inl fm)), (mk, .inl (T 0, 320, .inl fk))] sz (fun u : Nat × Int32 × (Nat → Int32) × (Nat → Int32) × (Nat → Int32) × (Nat → Int32) => some (.int (nI 0))) (fun u : Nat × Int32 × (Nat → Int32) × (Nat → Int32) × (Nat → Int32) × (Nat → Int32) => u.2.1 = nI 3 ∧ MR u.2.2.2.1 u.2.2.1 (N) (Bw)) (fun u : Nat × Int32 × (Nat → Int32) × (Nat → Int32) × (Nat → Int32) × (Nat → Int32) => [(m0, .inr (3, [.ref mb, .ref ml, .ref mm, .int (nI u.1), .int u.2.1, .ref mk])), (mb, .inl (T 0, 1920, .inl u.2.2.1)), (ml, .inl (T 0, 6, .inl u.2.2.2.1)), (mm, .inl (T 0, 600, .inl u.2.2.2.2.1)), (mk, .inl (T 0, 320, .inl u.2.2.2.2.2))]) 0 0 := by
  refine Met.ofW (cc := cX6_add) (maxL := 3) (ret := (some .int)) (by decide) rfl ?_
  intro p e s m args below meth c s₁ B hml hv
  obtain ⟨rfl, hsz, hP, hK, hD0, hG⟩ := hv
  have hx := B.exec
  have hb := B.bytes
  have hr := B.returns
  have hts := atoms_spec (ws := wsX6_add) B.pre
  have hown : s.vm.findClass RX6 = some m.cls := findClass_of_methodNamed B.named
  have hlocks := B.notSynchronized
  have hi_X6 : ∀ w ∈ wsX60, w ∈ wsX6_add := by decide +kernel
  subst hsz
  have hD := hD0.self (sz := s.heap.size)
  generalize hAe : va_A [(m0, .inr (3, [.ref mb, .ref ml, .ref mm, .int (nI many), .int th, .ref mk])), (mb, .inl (T 0, 1920, .inl fb)), (ml, .inl (T 0, 6, .inl fl)), (mm, .inl (T 0, 600, .inl fm)), (mk, .inl (T 0, 320, .inl fk))] s.heap.size = A at hD hG ⊢
  have hA : ∀ q : Nat, s.heap.size ≤ q → A q := fun q h => by rw [← hAe]; exact Or.inr h
  have hS : va_S A s.heap s.heap [] := va_S.rf
  have hP : va_P D cls [(m0, .inr (3, [.ref mb, .ref ml, .ref mm, .int (nI many), .int th, .ref mk])), (mb, .inl (T 0, 1920, .inl fb)), (ml, .inl (T 0, 6, .inl fl)), (mm, .inl (T 0, 600, .inl fm)), (mk, .inl (T 0, 320, .inl fk))] s.heap := hP
  have hl := lv_entry ([.ref m0, .int (nI i), .int (nI v)]) (n := 3) (Nat.le_of_ble_eq_true rfl)
  rw [lg_entry_eq]
  generalize (lg_sl ([.ref m0, .int (nI i), .int (nI v)]) ++ List.replicate (3 - (lg_sl ([.ref m0, .int (nI i), .int (nI v)])).length) Slot.unset).toArray = ls at hl ⊢
  have hl : lv_has ls 3 [(0, .ref m0), (1, .int (nI i)), (2, .int (nI v))] := hl
  have hrow := hMR i hi
  have hn := hrow.2.1
  refine lv_aload_n hx hb dX6_add_0 rfl (lv_at hl 0 rfl) ?_
  refine lv_aload_n hx hb dX6_add_1 rfl (lv_at hl 0 rfl) ?_
  refine lv_iload_n hx hb dX6_add_2 rfl (lv_at hl 1 rfl) ?_
  refine ro_V (As := [.int (nI i)]) (rest := [.ref m0]) (wc := []) (r := .int (nI 1)) ⟨hx, hb, hml, hown, hts⟩ (c_X6_isRow_y l D T g m0 i (by omega)) (cwV 1 hts gX6_add_X6_isRow rfl rfl rfl (by decide +kernel) ⟨Nat.le_of_ble_eq_true rfl, Nat.le_of_ble_eq_true rfl⟩) (va_recv hK hP (ci := 3) (q0 := 0) rfl rfl) hP hK hG hS [] rfl ⟨Nat.zero_le _, Nat.zero_le _⟩ rfl hl.1 (Nat.le_of_ble_eq_true rfl) dX6_add_3 rfl ?_
  refine ln_if_ne_t (tgt := 13) hx hb (by omega) (by decide) dX6_add_6 (by decide) ?_
  refine lv_aload_n hx hb dX6_add_13 rfl (lv_at hl 0 rfl) ?_
  refine lv_iload_n hx hb dX6_add_14 rfl (lv_at hl 2 rfl) ?_
  refine ro_V (As := [.int (nI v)]) (rest := [.ref m0]) (wc := []) (r := .int (nI 1)) ⟨hx, hb, hml, hown, hts⟩ (c_X6_isByte_y l D T g m0 v (by omega)) (cwV 1 hts gX6_add_X6_isByte rfl rfl rfl (by decide +kernel) ⟨Nat.le_of_ble_eq_true rfl, Nat.le_of_ble_eq_true rfl⟩) (va_recv hK hP (ci := 3) (q0 := 0) rfl rfl) hP hK hG hS [] rfl ⟨Nat.zero_le _, Nat.zero_le _⟩ rfl hl.1 (Nat.le_of_ble_eq_true rfl) dX6_add_15 rfl ?_
  refine ln_if_ne_t (tgt := 25) hx hb (by omega) (by decide) dX6_add_18 (by decide) ?_
  refine lv_aload_n hx hb dX6_add_25 rfl (lv_at hl 0 rfl) ?_
  refine va_get (D := D) (ci := 3) (v := .ref ml) (C := RX6) (T := TX6) (N := 6) hx hb hts hi_X6 hown hK hP 0 rfl rfl 1 (by decide) (hts _ (List.mem_of_getElem? (i := 1) rfl)) (fun _ h9 => h9) rfl dX6_add_26 ?_
  refine lv_iload_n hx hb dX6_add_29 rfl (lv_at hl 1 rfl) ?_
  refine ln_iald hx hb hK hP 2 0 rfl rfl ⟨by omega, by omega⟩ dX6_add_30 ?_
  rw [show fl i = nI (N i) from hrow.1]
  refine lv_sipush (v := (nI 320)) hx hb dX6_add_31 (by decide +kernel) ?_
  refine ln_icmp_ne_f (tgt := 41) hx hb ⟨by omega, by omega⟩ (hf) dX6_add_34 (by decide) ?_
  refine lv_iconst (v := (nI 3)) hx hb dX6_add_37 (by decide +kernel) ?_
  refine lv_goto (tgt := 42) hx hb dX6_add_38 (by decide) ?_
  refine mu_V (As := [.int (nI 3)]) (rest := []) (wc := [(m0, .inr (3, [.ref mb, .ref ml, .ref mm, .int (nI many), .int th, .ref mk]))]) (wr := [(mb, .inl (T 0, 1920, .inl fb)), (ml, .inl (T 0, 6, .inl fl)), (mm, .inl (T 0, 600, .inl fm)), (mk, .inl (T 0, 320, .inl fk))]) ⟨hx, hb, hml, hown, hts⟩ (c_X6_isWrong_p l D T g s.heap.size m0 mb ml mm mk many th 3 (by omega)) (cwV 1 hts gX6_add_X6_isWrong rfl rfl rfl (by decide +kernel) ⟨Nat.le_of_ble_eq_true rfl, Nat.le_of_ble_eq_true rfl⟩) (va_recv hK hP (ci := 3) (q0 := 0) rfl rfl) hP hD hK hG hS hA [0] [1, 2, 3, 4] rfl (by decide) rfl (by decide) (by decide) ⟨Nat.le_of_ble_eq_true rfl, Nat.le_of_ble_eq_true rfl⟩ rfl hl.1 (Nat.le_of_ble_eq_true rfl) dX6_add_42 rfl (fun u H locs hq1 hP hD hS => ?_)
  have hP : va_P D cls [(mb, .inl (T 0, 1920, .inl fb)), (ml, .inl (T 0, 6, .inl fl)), (mm, .inl (T 0, 600, .inl fm)), (mk, .inl (T 0, 320, .inl fk)), (m0, .inr (3, [.ref mb, .ref ml, .ref mm, .int (nI many), .int (nI 3), .ref mk]))] H := hP
  have hD : va_D A [(mb, .inl (T 0, 1920, .inl fb)), (ml, .inl (T 0, 6, .inl fl)), (mm, .inl (T 0, 600, .inl fm)), (mk, .inl (T 0, 320, .inl fk)), (m0, .inr (3, [.ref mb, .ref ml, .ref mm, .int (nI many), .int (nI 3), .ref mk]))] := hD
  refine W.eq (g2 := F0 m 45 ls [.int (nI 1)]) rfl ?_
  refine ln_if_eq_f (tgt := 50) hx hb (by omega) (by decide) dX6_add_45 (by decide) ?_
  refine lv_iconst (v := (nI 0)) hx hb dX6_add_48 (by decide +kernel) ?_
  have hP9 := hP.sub (ws' := [(m0, .inr (3, [.ref mb, .ref ml, .ref mm, .int (nI many), .int (nI 3), .ref mk])), (mb, .inl (T 0, 1920, .inl fb)), (ml, .inl (T 0, 6, .inl fl)), (mm, .inl (T 0, 600, .inl fm)), (mk, .inl (T 0, 320, .inl fk))]) [4, 0, 1, 2, 3] rfl
  have hD9 := hD.sub (ws' := [(m0, .inr (3, [.ref mb, .ref ml, .ref mm, .int (nI many), .int (nI 3), .ref mk])), (mb, .inl (T 0, 1920, .inl fb)), (ml, .inl (T 0, 6, .inl fl)), (mm, .inl (T 0, 600, .inl fm)), (mk, .inl (T 0, 320, .inl fk))]) [4, 0, 1, 2, 3] (by decide) rfl
  exact W.iret (v := (nI 0)) hx hb hr (fun t ht hW => ⟨⟨(many, (nI 3), fb, fl, fm, fk), rfl, show (nI 3) = nI 3 ∧ MR fl fb (N) (Bw) from ⟨rfl, hMR⟩, (by rw [ht]; exact hP9), va_K.moved hW.alike hK, hD9⟩, hS.F ht⟩) hS.2.2 dX6_add_49
set_option maxHeartbeats 4000000 in
set_option maxRecDepth 100000 in
theorem m_add (l : Launch) (D : va_G) (T : Nat → ClassId) (g : Nat → Nat) (sz : Nat) (m0 : Nat) (mb : Nat) (ml : Nat) (mm : Nat) (mk : Nat) (many : Nat) (th : Int32) (fb : Nat → Int32) (fl : Nat → Int32) (fm : Nat → Int32) (fk : Nat → Int32) (N : Nat → Nat) (Bw : Nat → Nat → Nat) (hMR : MR fl fb N Bw) (i : Nat) (hi : i < 6) (v : Nat) (hv : v < 256) (hf : N i < 320) : MU l yX6_add wsX6_add ({ frames := 60, cells := 0, slots := 0, locals := 3000 } : Room) D T g [.ref m0, .int (nI i), .int (nI v)] [(m0, .inr (3, [.ref mb, .ref ml, .ref mm, .int (nI many), .int th, .ref mk])), (mb, .inl (T 0, 1920, .inl fb)), (ml, .inl (T 0, 6, .inl fl)), (mm, .inl (T 0, 600, .inl fm)), (mk, .inl (T 0, 320, .inl fk))] sz (fun u : Nat × Int32 × (Nat → Int32) × (Nat → Int32) × (Nat → Int32) × (Nat → Int32) => some (.int (nI (N i + 1)))) (fun u : Nat × Int32 × (Nat → Int32) × (Nat → Int32) × (Nat → Int32) × (Nat → Int32) => u.2.1 = nI 0 ∧ MR u.2.2.2.1 u.2.2.1 (upA N i (N i + 1)) (upA Bw i (upN (Bw i) (N i) v))) (fun u : Nat × Int32 × (Nat → Int32) × (Nat → Int32) × (Nat → Int32) × (Nat → Int32) => [(m0, .inr (3, [.ref mb, .ref ml, .ref mm, .int (nI u.1), .int u.2.1, .ref mk])), (mb, .inl (T 0, 1920, .inl u.2.2.1)), (ml, .inl (T 0, 6, .inl u.2.2.2.1)), (mm, .inl (T 0, 600, .inl u.2.2.2.2.1)), (mk, .inl (T 0, 320, .inl u.2.2.2.2.2))]) 0 0 := by
  refine Met.ofW (cc := cX6_add) (maxL := 3) (ret := (some .int)) (by decide) rfl ?_
  intro p e s m args below meth c s₁ B hml hv
  obtain ⟨rfl, hsz, hP, hK, hD0, hG⟩ := hv
  have hx := B.exec
  have hb := B.bytes
  have hr := B.returns
  have hts := atoms_spec (ws := wsX6_add) B.pre
  have hown : s.vm.findClass RX6 = some m.cls := findClass_of_methodNamed B.named
  have hlocks := B.notSynchronized
  have hi_X6 : ∀ w ∈ wsX60, w ∈ wsX6_add := by decide +kernel
  subst hsz
  have hD := hD0.self (sz := s.heap.size)
  generalize hAe : va_A [(m0, .inr (3, [.ref mb, .ref ml, .ref mm, .int (nI many), .int th, .ref mk])), (mb, .inl (T 0, 1920, .inl fb)), (ml, .inl (T 0, 6, .inl fl)), (mm, .inl (T 0, 600, .inl fm)), (mk, .inl (T 0, 320, .inl fk))] s.heap.size = A at hD hG ⊢
  have hA : ∀ q : Nat, s.heap.size ≤ q → A q := fun q h => by rw [← hAe]; exact Or.inr h
  have hS : va_S A s.heap s.heap [] := va_S.rf
  have hP : va_P D cls [(m0, .inr (3, [.ref mb, .ref ml, .ref mm, .int (nI many), .int th, .ref mk])), (mb, .inl (T 0, 1920, .inl fb)), (ml, .inl (T 0, 6, .inl fl)), (mm, .inl (T 0, 600, .inl fm)), (mk, .inl (T 0, 320, .inl fk))] s.heap := hP
  have hl := lv_entry ([.ref m0, .int (nI i), .int (nI v)]) (n := 3) (Nat.le_of_ble_eq_true rfl)
  rw [lg_entry_eq]
  generalize (lg_sl ([.ref m0, .int (nI i), .int (nI v)]) ++ List.replicate (3 - (lg_sl ([.ref m0, .int (nI i), .int (nI v)])).length) Slot.unset).toArray = ls at hl ⊢
  have hl : lv_has ls 3 [(0, .ref m0), (1, .int (nI i)), (2, .int (nI v))] := hl
  have hrow := hMR i hi
  have hn := hrow.2.1
  refine lv_aload_n hx hb dX6_add_0 rfl (lv_at hl 0 rfl) ?_
  refine lv_aload_n hx hb dX6_add_1 rfl (lv_at hl 0 rfl) ?_
  refine lv_iload_n hx hb dX6_add_2 rfl (lv_at hl 1 rfl) ?_
  refine ro_V (As := [.int (nI i)]) (rest := [.ref m0]) (wc := []) (r := .int (nI 1)) ⟨hx, hb, hml, hown, hts⟩ (c_X6_isRow_y l D T g m0 i (by omega)) (cwV 1 hts gX6_add_X6_isRow rfl rfl rfl (by decide +kernel) ⟨Nat.le_of_ble_eq_true rfl, Nat.le_of_ble_eq_true rfl⟩) (va_recv hK hP (ci := 3) (q0 := 0) rfl rfl) hP hK hG hS [] rfl ⟨Nat.zero_le _, Nat.zero_le _⟩ rfl hl.1 (Nat.le_of_ble_eq_true rfl) dX6_add_3 rfl ?_
  refine ln_if_ne_t (tgt := 13) hx hb (by omega) (by decide) dX6_add_6 (by decide) ?_
  refine lv_aload_n hx hb dX6_add_13 rfl (lv_at hl 0 rfl) ?_
  refine lv_iload_n hx hb dX6_add_14 rfl (lv_at hl 2 rfl) ?_
  refine ro_V (As := [.int (nI v)]) (rest := [.ref m0]) (wc := []) (r := .int (nI 1)) ⟨hx, hb, hml, hown, hts⟩ (c_X6_isByte_y l D T g m0 v (by omega)) (cwV 1 hts gX6_add_X6_isByte rfl rfl rfl (by decide +kernel) ⟨Nat.le_of_ble_eq_true rfl, Nat.le_of_ble_eq_true rfl⟩) (va_recv hK hP (ci := 3) (q0 := 0) rfl rfl) hP hK hG hS [] rfl ⟨Nat.zero_le _, Nat.zero_le _⟩ rfl hl.1 (Nat.le_of_ble_eq_true rfl) dX6_add_15 rfl ?_
  refine ln_if_ne_t (tgt := 25) hx hb (by omega) (by decide) dX6_add_18 (by decide) ?_
  refine lv_aload_n hx hb dX6_add_25 rfl (lv_at hl 0 rfl) ?_
  refine va_get (D := D) (ci := 3) (v := .ref ml) (C := RX6) (T := TX6) (N := 6) hx hb hts hi_X6 hown hK hP 0 rfl rfl 1 (by decide) (hts _ (List.mem_of_getElem? (i := 1) rfl)) (fun _ h9 => h9) rfl dX6_add_26 ?_
  refine lv_iload_n hx hb dX6_add_29 rfl (lv_at hl 1 rfl) ?_
  refine ln_iald hx hb hK hP 2 0 rfl rfl ⟨by omega, by omega⟩ dX6_add_30 ?_
  rw [show fl i = nI (N i) from hrow.1]
  refine lv_sipush (v := (nI 320)) hx hb dX6_add_31 (by decide +kernel) ?_
  refine ln_icmp_ne_t (tgt := 41) hx hb ⟨by omega, by omega⟩ (by omega) dX6_add_34 (by decide) ?_
  refine lv_iconst (v := (nI 0)) hx hb dX6_add_41 (by decide +kernel) ?_
  refine mu_V (As := [.int (nI 0)]) (rest := []) (wc := [(m0, .inr (3, [.ref mb, .ref ml, .ref mm, .int (nI many), .int th, .ref mk]))]) (wr := [(mb, .inl (T 0, 1920, .inl fb)), (ml, .inl (T 0, 6, .inl fl)), (mm, .inl (T 0, 600, .inl fm)), (mk, .inl (T 0, 320, .inl fk))]) ⟨hx, hb, hml, hown, hts⟩ (c_X6_isWrong_0 l D T g s.heap.size m0 mb ml mm mk many th) (cwV 1 hts gX6_add_X6_isWrong rfl rfl rfl (by decide +kernel) ⟨Nat.le_of_ble_eq_true rfl, Nat.le_of_ble_eq_true rfl⟩) (va_recv hK hP (ci := 3) (q0 := 0) rfl rfl) hP hD hK hG hS hA [0] [1, 2, 3, 4] rfl (by decide) rfl (by decide) (by decide) ⟨Nat.le_of_ble_eq_true rfl, Nat.le_of_ble_eq_true rfl⟩ rfl hl.1 (Nat.le_of_ble_eq_true rfl) dX6_add_42 rfl (fun u H locs hq1 hP hD hS => ?_)
  have hP : va_P D cls [(mb, .inl (T 0, 1920, .inl fb)), (ml, .inl (T 0, 6, .inl fl)), (mm, .inl (T 0, 600, .inl fm)), (mk, .inl (T 0, 320, .inl fk)), (m0, .inr (3, [.ref mb, .ref ml, .ref mm, .int (nI many), .int (nI 0), .ref mk]))] H := hP
  have hD : va_D A [(mb, .inl (T 0, 1920, .inl fb)), (ml, .inl (T 0, 6, .inl fl)), (mm, .inl (T 0, 600, .inl fm)), (mk, .inl (T 0, 320, .inl fk)), (m0, .inr (3, [.ref mb, .ref ml, .ref mm, .int (nI many), .int (nI 0), .ref mk]))] := hD
  refine W.eq (g2 := F0 m 45 ls [.int (nI 0)]) rfl ?_
  refine ln_if_eq_t (tgt := 50) hx hb (by omega) (by decide) dX6_add_45 (by decide) ?_
  refine lv_aload_n hx hb dX6_add_50 rfl (lv_at hl 0 rfl) ?_
  refine va_get (D := D) (ci := 3) (v := .ref mb) (C := RX6) (T := TX6) (N := 6) hx hb hts hi_X6 hown hK hP 4 rfl rfl 0 (by decide) (hts _ (List.mem_of_getElem? (i := 2) rfl)) (fun _ h9 => h9) rfl dX6_add_51 ?_
  refine lv_sipush (v := (nI 320)) hx hb dX6_add_54 (by decide +kernel) ?_
  refine lv_iload_n hx hb dX6_add_57 rfl (lv_at hl 1 rfl) ?_
  refine ln_mul hx hb dX6_add_58 ?_
  refine lv_aload_n hx hb dX6_add_59 rfl (lv_at hl 0 rfl) ?_
  refine va_get (D := D) (ci := 3) (v := .ref ml) (C := RX6) (T := TX6) (N := 6) hx hb hts hi_X6 hown hK hP 4 rfl rfl 1 (by decide) (hts _ (List.mem_of_getElem? (i := 1) rfl)) (fun _ h9 => h9) rfl dX6_add_60 ?_
  refine lv_iload_n hx hb dX6_add_63 rfl (lv_at hl 1 rfl) ?_
  refine ln_iald hx hb hK hP 1 0 rfl rfl ⟨by omega, by omega⟩ dX6_add_64 ?_
  rw [show fl i = nI (N i) from hrow.1]
  refine ln_add hx hb dX6_add_65 ?_
  refine lv_iload_n hx hb dX6_add_66 rfl (lv_at hl 2 rfl) ?_
  refine ln_iast hx hb hK hP hD hS 0 0 rfl rfl ⟨by omega, by omega⟩ dX6_add_67 (fun H locs hP hD hS => ?_)
  have hP : va_P D cls [(mb, .inl (T 0, 1920, .inl (upd fb ((320 * i) + (N i)) (nI v)))), (ml, .inl (T 0, 6, .inl fl)), (mm, .inl (T 0, 600, .inl fm)), (mk, .inl (T 0, 320, .inl fk)), (m0, .inr (3, [.ref mb, .ref ml, .ref mm, .int (nI many), .int (nI 0), .ref mk]))] H := hP
  have hD : va_D A [(mb, .inl (T 0, 1920, .inl (upd fb ((320 * i) + (N i)) (nI v)))), (ml, .inl (T 0, 6, .inl fl)), (mm, .inl (T 0, 600, .inl fm)), (mk, .inl (T 0, 320, .inl fk)), (m0, .inr (3, [.ref mb, .ref ml, .ref mm, .int (nI many), .int (nI 0), .ref mk]))] := hD
  refine lv_aload_n hx hb dX6_add_68 rfl (lv_at hl 0 rfl) ?_
  refine va_get (D := D) (ci := 3) (v := .ref ml) (C := RX6) (T := TX6) (N := 6) hx hb hts hi_X6 hown hK hP 4 rfl rfl 1 (by decide) (hts _ (List.mem_of_getElem? (i := 1) rfl)) (fun _ h9 => h9) rfl dX6_add_69 ?_
  refine lv_iload_n hx hb dX6_add_72 rfl (lv_at hl 1 rfl) ?_
  refine lv_dup2_11 hx hb dX6_add_73 rfl rfl ?_
  refine ln_iald hx hb hK hP 1 0 rfl rfl ⟨by omega, by omega⟩ dX6_add_74 ?_
  rw [show fl i = nI (N i) from hrow.1]
  refine lv_iconst (v := (nI 1)) hx hb dX6_add_75 (by decide +kernel) ?_
  refine ln_add hx hb dX6_add_76 ?_
  refine ln_iast hx hb hK hP hD hS 1 0 rfl rfl ⟨by omega, by omega⟩ dX6_add_77 (fun H locs hP hD hS => ?_)
  have hP : va_P D cls [(mb, .inl (T 0, 1920, .inl (upd fb ((320 * i) + (N i)) (nI v)))), (ml, .inl (T 0, 6, .inl (upd fl i (nI ((N i) + 1))))), (mm, .inl (T 0, 600, .inl fm)), (mk, .inl (T 0, 320, .inl fk)), (m0, .inr (3, [.ref mb, .ref ml, .ref mm, .int (nI many), .int (nI 0), .ref mk]))] H := hP
  have hD : va_D A [(mb, .inl (T 0, 1920, .inl (upd fb ((320 * i) + (N i)) (nI v)))), (ml, .inl (T 0, 6, .inl (upd fl i (nI ((N i) + 1))))), (mm, .inl (T 0, 600, .inl fm)), (mk, .inl (T 0, 320, .inl fk)), (m0, .inr (3, [.ref mb, .ref ml, .ref mm, .int (nI many), .int (nI 0), .ref mk]))] := hD
  refine lv_aload_n hx hb dX6_add_78 rfl (lv_at hl 0 rfl) ?_
  refine va_get (D := D) (ci := 3) (v := .ref ml) (C := RX6) (T := TX6) (N := 6) hx hb hts hi_X6 hown hK hP 4 rfl rfl 1 (by decide) (hts _ (List.mem_of_getElem? (i := 1) rfl)) (fun _ h9 => h9) rfl dX6_add_79 ?_
  refine lv_iload_n hx hb dX6_add_82 rfl (lv_at hl 1 rfl) ?_
  refine ln_iald hx hb hK hP 1 0 rfl rfl ⟨by omega, by omega⟩ dX6_add_83 ?_
  rw [show (upd fl i (nI ((N i) + 1))) i = nI (N i + 1) from pk_us]
  have hP9 := hP.sub (ws' := [(m0, .inr (3, [.ref mb, .ref ml, .ref mm, .int (nI many), .int (nI 0), .ref mk])), (mb, .inl (T 0, 1920, .inl (upd fb ((320 * i) + (N i)) (nI v)))), (ml, .inl (T 0, 6, .inl (upd fl i (nI ((N i) + 1))))), (mm, .inl (T 0, 600, .inl fm)), (mk, .inl (T 0, 320, .inl fk))]) [4, 0, 1, 2, 3] rfl
  have hD9 := hD.sub (ws' := [(m0, .inr (3, [.ref mb, .ref ml, .ref mm, .int (nI many), .int (nI 0), .ref mk])), (mb, .inl (T 0, 1920, .inl (upd fb ((320 * i) + (N i)) (nI v)))), (ml, .inl (T 0, 6, .inl (upd fl i (nI ((N i) + 1))))), (mm, .inl (T 0, 600, .inl fm)), (mk, .inl (T 0, 320, .inl fk))]) [4, 0, 1, 2, 3] (by decide) rfl
  exact W.iret (v := (nI (N i + 1))) hx hb hr (fun t ht hW => ⟨⟨(many, (nI 0), upd fb ((320 * i) + (N i)) (nI v), upd fl i (nI ((N i) + 1)), fm, fk), rfl, show (nI 0) = nI 0 ∧ MR (upd fl i (nI ((N i) + 1))) (upd fb ((320 * i) + (N i)) (nI v)) (upA N i (N i + 1)) (upA Bw i (upN (Bw i) (N i) v)) from ⟨rfl, MR_upd hMR pk_us (fun j _ hne => pk_un hne) (RW_next (RW_cong hrow.2 (fun j hj => (if_neg (by omega)).symm)) (by omega) (if_pos rfl).symm hv) (fun q hq => pk_un (by omega))⟩, (by rw [ht]; exact hP9), va_K.moved hW.alike hK, hD9⟩, hS.F ht⟩) hS.2.2 dX6_add_84
set_option maxHeartbeats 4000000 in
set_option maxRecDepth 100000 in
theorem c_X6_isPlace_y (l : Launch) (D : va_G) (T : Nat → ClassId) (g : Nat → Nat) (m0 : Nat) (mb : Nat) (ml : Nat) (mm : Nat) (mk : Nat) (many : Nat) (th : Int32) (fb : Nat → Int32) (fl : Nat → Int32) (N : Nat → Nat) (Bw : Nat → Nat → Nat) (hMR : MR fl fb N Bw) (i : Nat) (hi : i < 6) (w7 : Nat) (hp : w7 < N i) : RO l yX6_isPlace wsX6_isPlace ({ frames := 1, cells := 0, slots := 0, locals := 21 } : Room) D T g [.ref m0, .int (nI i), .int (nI w7)] [(m0, .inr (3, [.ref mb, .ref ml, .ref mm, .int (nI many), .int th, .ref mk])), (ml, .inl (T 0, 6, .inl fl)), (mb, .inl (T 0, 1920, .inl fb))] (.int (nI 1)) := by
  refine Met.ofW (cc := cX6_isPlace) (maxL := 3) (ret := (some .boolean)) (by decide) rfl ?_
  intro p e s m args below meth c s₁ B hml hv
  obtain ⟨rfl, hP, hK, hG⟩ := hv
  have hx := B.exec
  have hb := B.bytes
  have hr := B.returns
  have hts := atoms_spec (ws := wsX6_isPlace) B.pre
  have hown : s.vm.findClass RX6 = some m.cls := findClass_of_methodNamed B.named
  have hlocks := B.notSynchronized
  have hi_X6 : ∀ w ∈ wsX60, w ∈ wsX6_isPlace := by decide +kernel
  have hS : va_S (fun _ => False) s.heap s.heap [] := va_S.rf
  have hl := lv_entry ([.ref m0, .int (nI i), .int (nI w7)]) (n := 3) (Nat.le_of_ble_eq_true rfl)
  rw [lg_entry_eq]
  generalize (lg_sl ([.ref m0, .int (nI i), .int (nI w7)]) ++ List.replicate (3 - (lg_sl ([.ref m0, .int (nI i), .int (nI w7)])).length) Slot.unset).toArray = ls at hl ⊢
  have hl : lv_has ls 3 [(0, .ref m0), (1, .int (nI i)), (2, .int (nI w7))] := hl
  have hrow := hMR i hi
  have hn := hrow.2.1
  refine lv_aload_n hx hb dX6_isPlace_0 rfl (lv_at hl 0 rfl) ?_
  refine lv_iload_n hx hb dX6_isPlace_1 rfl (lv_at hl 1 rfl) ?_
  refine ro_V (As := [.int (nI i)]) (rest := []) (wc := []) (r := .int (nI 1)) ⟨hx, hb, hml, hown, hts⟩ (c_X6_isRow_y l D T g m0 i (by omega)) (cwV 1 hts gX6_isPlace_X6_isRow rfl rfl rfl (by decide +kernel) ⟨Nat.le_of_ble_eq_true rfl, Nat.le_of_ble_eq_true rfl⟩) (va_recv hK hP (ci := 3) (q0 := 0) rfl rfl) hP hK hG hS [] rfl ⟨Nat.zero_le _, Nat.zero_le _⟩ rfl hl.1 (Nat.le_of_ble_eq_true rfl) dX6_isPlace_2 rfl ?_
  refine ln_if_eq_f (tgt := 27) hx hb (by omega) (by decide) dX6_isPlace_5 (by decide) ?_
  refine lv_iconst (v := (nI 0)) hx hb dX6_isPlace_8 (by decide +kernel) ?_
  refine lv_iload_n hx hb dX6_isPlace_9 rfl (lv_at hl 2 rfl) ?_
  refine ln_icmp_gt_f (tgt := 27) hx hb ⟨by omega, by omega⟩ (by omega) dX6_isPlace_10 (by decide) ?_
  refine lv_iload_n hx hb dX6_isPlace_13 rfl (lv_at hl 2 rfl) ?_
  refine lv_aload_n hx hb dX6_isPlace_14 rfl (lv_at hl 0 rfl) ?_
  refine va_get (D := D) (ci := 3) (v := .ref ml) (C := RX6) (T := TX6) (N := 6) hx hb hts hi_X6 hown hK hP 0 rfl rfl 1 (by decide) (hts _ (List.mem_of_getElem? (i := 1) rfl)) (fun _ h9 => h9) rfl dX6_isPlace_15 ?_
  refine lv_iload_n hx hb dX6_isPlace_18 rfl (lv_at hl 1 rfl) ?_
  refine ln_iald hx hb hK hP 1 0 rfl rfl ⟨by omega, by omega⟩ dX6_isPlace_19 ?_
  rw [show fl i = nI (N i) from hrow.1]
  refine ln_icmp_ge_f (tgt := 27) hx hb ⟨by omega, by omega⟩ (by omega) dX6_isPlace_20 (by decide) ?_
  refine lv_iconst (v := (nI 1)) hx hb dX6_isPlace_23 (by decide +kernel) ?_
  refine lv_goto (tgt := 28) hx hb dX6_isPlace_24 (by decide) ?_
  exact W.zret (v := (nI 1)) (ty := .boolean) hx hb hr (rfl) (fun t ht hW => ⟨(congrArg (fun z => Outcome.returned (some (Value.int z))) (show (nI 1) = (nI 1) from rfl)), ht⟩) (fun q h => nomatch h) dX6_isPlace_28
set_option maxHeartbeats 4000000 in
set_option maxRecDepth 100000 in
theorem c_X6_isPlace_r (l : Launch) (D : va_G) (T : Nat → ClassId) (g : Nat → Nat) (m0 : Nat) (mb : Nat) (ml : Nat) (mm : Nat) (mk : Nat) (many : Nat) (th : Int32) (i : Int32) (hi : i < 0 ∨ nI 5 < i) (x0 : Int32) : RO l yX6_isPlace wsX6_isPlace ({ frames := 1, cells := 0, slots := 0, locals := 21 } : Room) D T g [.ref m0, .int i, .int x0] [(m0, .inr (3, [.ref mb, .ref ml, .ref mm, .int (nI many), .int th, .ref mk]))] (.int (nI 0)) := by
  refine Met.ofW (cc := cX6_isPlace) (maxL := 3) (ret := (some .boolean)) (by decide) rfl ?_
  intro p e s m args below meth c s₁ B hml hv
  obtain ⟨rfl, hP, hK, hG⟩ := hv
  have hx := B.exec
  have hb := B.bytes
  have hr := B.returns
  have hts := atoms_spec (ws := wsX6_isPlace) B.pre
  have hown : s.vm.findClass RX6 = some m.cls := findClass_of_methodNamed B.named
  have hlocks := B.notSynchronized
  have hS : va_S (fun _ => False) s.heap s.heap [] := va_S.rf
  have hl := lv_entry ([.ref m0, .int i, .int x0]) (n := 3) (Nat.le_of_ble_eq_true rfl)
  rw [lg_entry_eq]
  generalize (lg_sl ([.ref m0, .int i, .int x0]) ++ List.replicate (3 - (lg_sl ([.ref m0, .int i, .int x0])).length) Slot.unset).toArray = ls at hl ⊢
  have hl : lv_has ls 3 [(0, .ref m0), (1, .int i), (2, .int x0)] := hl
  refine lv_aload_n hx hb dX6_isPlace_0 rfl (lv_at hl 0 rfl) ?_
  refine lv_iload_n hx hb dX6_isPlace_1 rfl (lv_at hl 1 rfl) ?_
  refine ro_V (As := [.int i]) (rest := []) (wc := []) (r := .int (nI 0)) ⟨hx, hb, hml, hown, hts⟩ (c_X6_isRow_n l D T g m0 i hi) (cwV 1 hts gX6_isPlace_X6_isRow rfl rfl rfl (by decide +kernel) ⟨Nat.le_of_ble_eq_true rfl, Nat.le_of_ble_eq_true rfl⟩) (va_recv hK hP (ci := 3) (q0 := 0) rfl rfl) hP hK hG hS [] rfl ⟨Nat.zero_le _, Nat.zero_le _⟩ rfl hl.1 (Nat.le_of_ble_eq_true rfl) dX6_isPlace_2 rfl ?_
  refine ln_if_eq_t (tgt := 27) hx hb (by omega) (by decide) dX6_isPlace_5 (by decide) ?_
  refine lv_iconst (v := (nI 0)) hx hb dX6_isPlace_27 (by decide +kernel) ?_
  exact W.zret (v := (nI 0)) (ty := .boolean) hx hb hr (rfl) (fun t ht hW => ⟨(congrArg (fun z => Outcome.returned (some (Value.int z))) (show (nI 0) = (nI 0) from rfl)), ht⟩) (fun q h => nomatch h) dX6_isPlace_28
set_option maxHeartbeats 4000000 in
set_option maxRecDepth 100000 in
theorem c_X6_isPlace_n (l : Launch) (D : va_G) (T : Nat → ClassId) (g : Nat → Nat) (m0 : Nat) (mb : Nat) (ml : Nat) (mm : Nat) (mk : Nat) (many : Nat) (th : Int32) (fb : Nat → Int32) (fl : Nat → Int32) (N : Nat → Nat) (Bw : Nat → Nat → Nat) (hMR : MR fl fb N Bw) (i : Nat) (hi : i < 6) (w7 : Int32) (hp : w7 < 0 ∨ nI (N i) ≤ w7) : RO l yX6_isPlace wsX6_isPlace ({ frames := 1, cells := 0, slots := 0, locals := 21 } : Room) D T g [.ref m0, .int (nI i), .int w7] [(m0, .inr (3, [.ref mb, .ref ml, .ref mm, .int (nI many), .int th, .ref mk])), (ml, .inl (T 0, 6, .inl fl)), (mb, .inl (T 0, 1920, .inl fb))] (.int (nI 0)) := by
  refine Met.ofW (cc := cX6_isPlace) (maxL := 3) (ret := (some .boolean)) (by decide) rfl ?_
  intro p e s m args below meth c s₁ B hml hv
  obtain ⟨rfl, hP, hK, hG⟩ := hv
  have hx := B.exec
  have hb := B.bytes
  have hr := B.returns
  have hts := atoms_spec (ws := wsX6_isPlace) B.pre
  have hown : s.vm.findClass RX6 = some m.cls := findClass_of_methodNamed B.named
  have hlocks := B.notSynchronized
  have hi_X6 : ∀ w ∈ wsX60, w ∈ wsX6_isPlace := by decide +kernel
  have hS : va_S (fun _ => False) s.heap s.heap [] := va_S.rf
  have hl := lv_entry ([.ref m0, .int (nI i), .int w7]) (n := 3) (Nat.le_of_ble_eq_true rfl)
  rw [lg_entry_eq]
  generalize (lg_sl ([.ref m0, .int (nI i), .int w7]) ++ List.replicate (3 - (lg_sl ([.ref m0, .int (nI i), .int w7])).length) Slot.unset).toArray = ls at hl ⊢
  have hl : lv_has ls 3 [(0, .ref m0), (1, .int (nI i)), (2, .int w7)] := hl
  have hrow := hMR i hi
  have hn := hrow.2.1
  refine lv_aload_n hx hb dX6_isPlace_0 rfl (lv_at hl 0 rfl) ?_
  refine lv_iload_n hx hb dX6_isPlace_1 rfl (lv_at hl 1 rfl) ?_
  refine ro_V (As := [.int (nI i)]) (rest := []) (wc := []) (r := .int (nI 1)) ⟨hx, hb, hml, hown, hts⟩ (c_X6_isRow_y l D T g m0 i (by omega)) (cwV 1 hts gX6_isPlace_X6_isRow rfl rfl rfl (by decide +kernel) ⟨Nat.le_of_ble_eq_true rfl, Nat.le_of_ble_eq_true rfl⟩) (va_recv hK hP (ci := 3) (q0 := 0) rfl rfl) hP hK hG hS [] rfl ⟨Nat.zero_le _, Nat.zero_le _⟩ rfl hl.1 (Nat.le_of_ble_eq_true rfl) dX6_isPlace_2 rfl ?_
  refine ln_if_eq_f (tgt := 27) hx hb (by omega) (by decide) dX6_isPlace_5 (by decide) ?_
  refine lv_iconst (v := (nI 0)) hx hb dX6_isPlace_8 (by decide +kernel) ?_
  refine lv_iload_n hx hb dX6_isPlace_9 rfl (lv_at hl 2 rfl) ?_
  refine lv_icmp_gt (tgt := 27) hx hb dX6_isPlace_10 (by decide) (fun c_10 => ?_) (fun c_10 => ?_)
  · refine lv_iconst (v := (nI 0)) hx hb dX6_isPlace_27 (by decide +kernel) ?_
    exact W.zret (v := (nI 0)) (ty := .boolean) hx hb hr (rfl) (fun t ht hW => ⟨(congrArg (fun z => Outcome.returned (some (Value.int z))) (show (nI 0) = (nI 0) from rfl)), ht⟩) (fun q h => nomatch h) dX6_isPlace_28
  · refine lv_iload_n hx hb dX6_isPlace_13 rfl (lv_at hl 2 rfl) ?_
    refine lv_aload_n hx hb dX6_isPlace_14 rfl (lv_at hl 0 rfl) ?_
    refine va_get (D := D) (ci := 3) (v := .ref ml) (C := RX6) (T := TX6) (N := 6) hx hb hts hi_X6 hown hK hP 0 rfl rfl 1 (by decide) (hts _ (List.mem_of_getElem? (i := 1) rfl)) (fun _ h9 => h9) rfl dX6_isPlace_15 ?_
    refine lv_iload_n hx hb dX6_isPlace_18 rfl (lv_at hl 1 rfl) ?_
    refine ln_iald hx hb hK hP 1 0 rfl rfl ⟨by omega, by omega⟩ dX6_isPlace_19 ?_
    rw [show fl i = nI (N i) from hrow.1]
    refine lv_icmp_ge (tgt := 27) hx hb dX6_isPlace_20 (by decide) (fun _ => ?_) (fun q9 => absurd (hp.elim (fun z => absurd z c_10) id) q9)
    refine lv_iconst (v := (nI 0)) hx hb dX6_isPlace_27 (by decide +kernel) ?_
    exact W.zret (v := (nI 0)) (ty := .boolean) hx hb hr (rfl) (fun t ht hW => ⟨(congrArg (fun z => Outcome.returned (some (Value.int z))) (show (nI 0) = (nI 0) from rfl)), ht⟩) (fun q h => nomatch h) dX6_isPlace_28
set_option maxHeartbeats 4000000 in
set_option maxRecDepth 100000 in
theorem m_put_1 (l : Launch) (D : va_G) (T : Nat → ClassId) (g : Nat → Nat) (sz : Nat) (m0 : Nat) (mb : Nat) (ml : Nat) (mm : Nat) (mk : Nat) (many : Nat) (th : Int32) (fb : Nat → Int32) (fl : Nat → Int32) (fm : Nat → Int32) (fk : Nat → Int32) (N : Nat → Nat) (Bw : Nat → Nat → Nat) (hMR : MR fl fb N Bw) (i : Int32) (hi : i < 0 ∨ nI 5 < i) (x0 : Int32) (x1 : Int32) : MU l yX6_put wsX6_put ({ frames := 60, cells := 0, slots := 0, locals := 3000 } : Room) D T g [.ref m0, .int i, .int x0, .int x1] [(m0, .inr (3, [.ref mb, .ref ml, .ref mm, .int (nI many), .int th, .ref mk])), (mb, .inl (T 0, 1920, .inl fb)), (ml, .inl (T 0, 6, .inl fl)), (mm, .inl (T 0, 600, .inl fm)), (mk, .inl (T 0, 320, .inl fk))] sz (fun u : Nat × Int32 × (Nat → Int32) × (Nat → Int32) × (Nat → Int32) × (Nat → Int32) => some (.int (nI 0))) (fun u : Nat × Int32 × (Nat → Int32) × (Nat → Int32) × (Nat → Int32) × (Nat → Int32) => u.2.1 = nI 1 ∧ MR u.2.2.2.1 u.2.2.1 (N) (Bw)) (fun u : Nat × Int32 × (Nat → Int32) × (Nat → Int32) × (Nat → Int32) × (Nat → Int32) => [(m0, .inr (3, [.ref mb, .ref ml, .ref mm, .int (nI u.1), .int u.2.1, .ref mk])), (mb, .inl (T 0, 1920, .inl u.2.2.1)), (ml, .inl (T 0, 6, .inl u.2.2.2.1)), (mm, .inl (T 0, 600, .inl u.2.2.2.2.1)), (mk, .inl (T 0, 320, .inl u.2.2.2.2.2))]) 0 0 := by
  refine Met.ofW (cc := cX6_put) (maxL := 5) (ret := (some .int)) (by decide) rfl ?_
  intro p e s m args below meth c s₁ B hml hv
  obtain ⟨rfl, hsz, hP, hK, hD0, hG⟩ := hv
  have hx := B.exec
  have hb := B.bytes
  have hr := B.returns
  have hts := atoms_spec (ws := wsX6_put) B.pre
  have hown : s.vm.findClass RX6 = some m.cls := findClass_of_methodNamed B.named
  have hlocks := B.notSynchronized
  subst hsz
  have hD := hD0.self (sz := s.heap.size)
  generalize hAe : va_A [(m0, .inr (3, [.ref mb, .ref ml, .ref mm, .int (nI many), .int th, .ref mk])), (mb, .inl (T 0, 1920, .inl fb)), (ml, .inl (T 0, 6, .inl fl)), (mm, .inl (T 0, 600, .inl fm)), (mk, .inl (T 0, 320, .inl fk))] s.heap.size = A at hD hG ⊢
  have hA : ∀ q : Nat, s.heap.size ≤ q → A q := fun q h => by rw [← hAe]; exact Or.inr h
  have hS : va_S A s.heap s.heap [] := va_S.rf
  have hP : va_P D cls [(m0, .inr (3, [.ref mb, .ref ml, .ref mm, .int (nI many), .int th, .ref mk])), (mb, .inl (T 0, 1920, .inl fb)), (ml, .inl (T 0, 6, .inl fl)), (mm, .inl (T 0, 600, .inl fm)), (mk, .inl (T 0, 320, .inl fk))] s.heap := hP
  have hl := lv_entry ([.ref m0, .int i, .int x0, .int x1]) (n := 5) (Nat.le_of_ble_eq_true rfl)
  rw [lg_entry_eq]
  generalize (lg_sl ([.ref m0, .int i, .int x0, .int x1]) ++ List.replicate (5 - (lg_sl ([.ref m0, .int i, .int x0, .int x1])).length) Slot.unset).toArray = ls at hl ⊢
  have hl : lv_has ls 5 [(0, .ref m0), (1, .int i), (2, .int x0), (3, .int x1)] := hl
  refine lv_aload_n hx hb dX6_put_0 rfl (lv_at hl 0 rfl) ?_
  refine lv_aload_n hx hb dX6_put_1 rfl (lv_at hl 0 rfl) ?_
  refine lv_iload_n hx hb dX6_put_2 rfl (lv_at hl 1 rfl) ?_
  refine lv_iload_n hx hb dX6_put_3 rfl (lv_at hl 2 rfl) ?_
  refine ro_V (As := [.int i, .int x0]) (rest := [.ref m0]) (wc := [(m0, .inr (3, [.ref mb, .ref ml, .ref mm, .int (nI many), .int th, .ref mk]))]) (r := .int (nI 0)) ⟨hx, hb, hml, hown, hts⟩ (c_X6_isPlace_r l D T g m0 mb ml mm mk many th i hi x0) (cwV 2 hts gX6_put_X6_isPlace rfl rfl rfl (by decide +kernel) ⟨Nat.le_of_ble_eq_true rfl, Nat.le_of_ble_eq_true rfl⟩) (va_recv hK hP (ci := 3) (q0 := 0) rfl rfl) hP hK hG hS [0] rfl ⟨Nat.zero_le _, Nat.zero_le _⟩ rfl hl.1 (Nat.le_of_ble_eq_true rfl) dX6_put_4 rfl ?_
  refine ln_if_ne_f (tgt := 14) hx hb (by omega) (by decide) dX6_put_7 (by decide) ?_
  refine lv_iconst (v := (nI 1)) hx hb dX6_put_10 (by decide +kernel) ?_
  refine lv_goto (tgt := 27) hx hb dX6_put_11 (by decide) ?_
  refine mu_V (As := [.int (nI 1)]) (rest := []) (wc := [(m0, .inr (3, [.ref mb, .ref ml, .ref mm, .int (nI many), .int th, .ref mk]))]) (wr := [(mb, .inl (T 0, 1920, .inl fb)), (ml, .inl (T 0, 6, .inl fl)), (mm, .inl (T 0, 600, .inl fm)), (mk, .inl (T 0, 320, .inl fk))]) ⟨hx, hb, hml, hown, hts⟩ (c_X6_isWrong_p l D T g s.heap.size m0 mb ml mm mk many th 1 (by omega)) (cwV 1 hts gX6_put_X6_isWrong rfl rfl rfl (by decide +kernel) ⟨Nat.le_of_ble_eq_true rfl, Nat.le_of_ble_eq_true rfl⟩) (va_recv hK hP (ci := 3) (q0 := 0) rfl rfl) hP hD hK hG hS hA [0] [1, 2, 3, 4] rfl (by decide) rfl (by decide) (by decide) ⟨Nat.le_of_ble_eq_true rfl, Nat.le_of_ble_eq_true rfl⟩ rfl hl.1 (Nat.le_of_ble_eq_true rfl) dX6_put_27 rfl (fun u H locs hq1 hP hD hS => ?_)
  have hP : va_P D cls [(mb, .inl (T 0, 1920, .inl fb)), (ml, .inl (T 0, 6, .inl fl)), (mm, .inl (T 0, 600, .inl fm)), (mk, .inl (T 0, 320, .inl fk)), (m0, .inr (3, [.ref mb, .ref ml, .ref mm, .int (nI many), .int (nI 1), .ref mk]))] H := hP
  have hD : va_D A [(mb, .inl (T 0, 1920, .inl fb)), (ml, .inl (T 0, 6, .inl fl)), (mm, .inl (T 0, 600, .inl fm)), (mk, .inl (T 0, 320, .inl fk)), (m0, .inr (3, [.ref mb, .ref ml, .ref mm, .int (nI many), .int (nI 1), .ref mk]))] := hD
  refine W.eq (g2 := F0 m 30 ls [.int (nI 1)]) rfl ?_
  refine ln_if_eq_f (tgt := 35) hx hb (by omega) (by decide) dX6_put_30 (by decide) ?_
  refine lv_iconst (v := (nI 0)) hx hb dX6_put_33 (by decide +kernel) ?_
  have hP9 := hP.sub (ws' := [(m0, .inr (3, [.ref mb, .ref ml, .ref mm, .int (nI many), .int (nI 1), .ref mk])), (mb, .inl (T 0, 1920, .inl fb)), (ml, .inl (T 0, 6, .inl fl)), (mm, .inl (T 0, 600, .inl fm)), (mk, .inl (T 0, 320, .inl fk))]) [4, 0, 1, 2, 3] rfl
  have hD9 := hD.sub (ws' := [(m0, .inr (3, [.ref mb, .ref ml, .ref mm, .int (nI many), .int (nI 1), .ref mk])), (mb, .inl (T 0, 1920, .inl fb)), (ml, .inl (T 0, 6, .inl fl)), (mm, .inl (T 0, 600, .inl fm)), (mk, .inl (T 0, 320, .inl fk))]) [4, 0, 1, 2, 3] (by decide) rfl
  exact W.iret (v := (nI 0)) hx hb hr (fun t ht hW => ⟨⟨(many, (nI 1), fb, fl, fm, fk), rfl, show (nI 1) = nI 1 ∧ MR fl fb (N) (Bw) from ⟨rfl, hMR⟩, (by rw [ht]; exact hP9), va_K.moved hW.alike hK, hD9⟩, hS.F ht⟩) hS.2.2 dX6_put_34
set_option maxHeartbeats 4000000 in
set_option maxRecDepth 100000 in
theorem m_put_2 (l : Launch) (D : va_G) (T : Nat → ClassId) (g : Nat → Nat) (sz : Nat) (m0 : Nat) (mb : Nat) (ml : Nat) (mm : Nat) (mk : Nat) (many : Nat) (th : Int32) (fb : Nat → Int32) (fl : Nat → Int32) (fm : Nat → Int32) (fk : Nat → Int32) (N : Nat → Nat) (Bw : Nat → Nat → Nat) (hMR : MR fl fb N Bw) (i : Nat) (hi : i < 6) (w7 : Int32) (hp : w7 < 0 ∨ nI (N i) ≤ w7) (x0 : Int32) : MU l yX6_put wsX6_put ({ frames := 60, cells := 0, slots := 0, locals := 3000 } : Room) D T g [.ref m0, .int (nI i), .int w7, .int x0] [(m0, .inr (3, [.ref mb, .ref ml, .ref mm, .int (nI many), .int th, .ref mk])), (mb, .inl (T 0, 1920, .inl fb)), (ml, .inl (T 0, 6, .inl fl)), (mm, .inl (T 0, 600, .inl fm)), (mk, .inl (T 0, 320, .inl fk))] sz (fun u : Nat × Int32 × (Nat → Int32) × (Nat → Int32) × (Nat → Int32) × (Nat → Int32) => some (.int (nI 0))) (fun u : Nat × Int32 × (Nat → Int32) × (Nat → Int32) × (Nat → Int32) × (Nat → Int32) => u.2.1 = nI 1 ∧ MR u.2.2.2.1 u.2.2.1 (N) (Bw)) (fun u : Nat × Int32 × (Nat → Int32) × (Nat → Int32) × (Nat → Int32) × (Nat → Int32) => [(m0, .inr (3, [.ref mb, .ref ml, .ref mm, .int (nI u.1), .int u.2.1, .ref mk])), (mb, .inl (T 0, 1920, .inl u.2.2.1)), (ml, .inl (T 0, 6, .inl u.2.2.2.1)), (mm, .inl (T 0, 600, .inl u.2.2.2.2.1)), (mk, .inl (T 0, 320, .inl u.2.2.2.2.2))]) 0 0 := by
  refine Met.ofW (cc := cX6_put) (maxL := 5) (ret := (some .int)) (by decide) rfl ?_
  intro p e s m args below meth c s₁ B hml hv
  obtain ⟨rfl, hsz, hP, hK, hD0, hG⟩ := hv
  have hx := B.exec
  have hb := B.bytes
  have hr := B.returns
  have hts := atoms_spec (ws := wsX6_put) B.pre
  have hown : s.vm.findClass RX6 = some m.cls := findClass_of_methodNamed B.named
  have hlocks := B.notSynchronized
  subst hsz
  have hD := hD0.self (sz := s.heap.size)
  generalize hAe : va_A [(m0, .inr (3, [.ref mb, .ref ml, .ref mm, .int (nI many), .int th, .ref mk])), (mb, .inl (T 0, 1920, .inl fb)), (ml, .inl (T 0, 6, .inl fl)), (mm, .inl (T 0, 600, .inl fm)), (mk, .inl (T 0, 320, .inl fk))] s.heap.size = A at hD hG ⊢
  have hA : ∀ q : Nat, s.heap.size ≤ q → A q := fun q h => by rw [← hAe]; exact Or.inr h
  have hS : va_S A s.heap s.heap [] := va_S.rf
  have hP : va_P D cls [(m0, .inr (3, [.ref mb, .ref ml, .ref mm, .int (nI many), .int th, .ref mk])), (mb, .inl (T 0, 1920, .inl fb)), (ml, .inl (T 0, 6, .inl fl)), (mm, .inl (T 0, 600, .inl fm)), (mk, .inl (T 0, 320, .inl fk))] s.heap := hP
  have hl := lv_entry ([.ref m0, .int (nI i), .int w7, .int x0]) (n := 5) (Nat.le_of_ble_eq_true rfl)
  rw [lg_entry_eq]
  generalize (lg_sl ([.ref m0, .int (nI i), .int w7, .int x0]) ++ List.replicate (5 - (lg_sl ([.ref m0, .int (nI i), .int w7, .int x0])).length) Slot.unset).toArray = ls at hl ⊢
  have hl : lv_has ls 5 [(0, .ref m0), (1, .int (nI i)), (2, .int w7), (3, .int x0)] := hl
  refine lv_aload_n hx hb dX6_put_0 rfl (lv_at hl 0 rfl) ?_
  refine lv_aload_n hx hb dX6_put_1 rfl (lv_at hl 0 rfl) ?_
  refine lv_iload_n hx hb dX6_put_2 rfl (lv_at hl 1 rfl) ?_
  refine lv_iload_n hx hb dX6_put_3 rfl (lv_at hl 2 rfl) ?_
  refine ro_V (As := [.int (nI i), .int w7]) (rest := [.ref m0]) (wc := [(m0, .inr (3, [.ref mb, .ref ml, .ref mm, .int (nI many), .int th, .ref mk])), (ml, .inl (T 0, 6, .inl fl)), (mb, .inl (T 0, 1920, .inl fb))]) (r := .int (nI 0)) ⟨hx, hb, hml, hown, hts⟩ (c_X6_isPlace_n l D T g m0 mb ml mm mk many th fb fl N Bw (hMR) i hi w7 hp) (cwV 2 hts gX6_put_X6_isPlace rfl rfl rfl (by decide +kernel) ⟨Nat.le_of_ble_eq_true rfl, Nat.le_of_ble_eq_true rfl⟩) (va_recv hK hP (ci := 3) (q0 := 0) rfl rfl) hP hK hG hS [0, 2, 1] rfl ⟨Nat.zero_le _, Nat.zero_le _⟩ rfl hl.1 (Nat.le_of_ble_eq_true rfl) dX6_put_4 rfl ?_
  refine ln_if_ne_f (tgt := 14) hx hb (by omega) (by decide) dX6_put_7 (by decide) ?_
  refine lv_iconst (v := (nI 1)) hx hb dX6_put_10 (by decide +kernel) ?_
  refine lv_goto (tgt := 27) hx hb dX6_put_11 (by decide) ?_
  refine mu_V (As := [.int (nI 1)]) (rest := []) (wc := [(m0, .inr (3, [.ref mb, .ref ml, .ref mm, .int (nI many), .int th, .ref mk]))]) (wr := [(mb, .inl (T 0, 1920, .inl fb)), (ml, .inl (T 0, 6, .inl fl)), (mm, .inl (T 0, 600, .inl fm)), (mk, .inl (T 0, 320, .inl fk))]) ⟨hx, hb, hml, hown, hts⟩ (c_X6_isWrong_p l D T g s.heap.size m0 mb ml mm mk many th 1 (by omega)) (cwV 1 hts gX6_put_X6_isWrong rfl rfl rfl (by decide +kernel) ⟨Nat.le_of_ble_eq_true rfl, Nat.le_of_ble_eq_true rfl⟩) (va_recv hK hP (ci := 3) (q0 := 0) rfl rfl) hP hD hK hG hS hA [0] [1, 2, 3, 4] rfl (by decide) rfl (by decide) (by decide) ⟨Nat.le_of_ble_eq_true rfl, Nat.le_of_ble_eq_true rfl⟩ rfl hl.1 (Nat.le_of_ble_eq_true rfl) dX6_put_27 rfl (fun u H locs hq1 hP hD hS => ?_)
  have hP : va_P D cls [(mb, .inl (T 0, 1920, .inl fb)), (ml, .inl (T 0, 6, .inl fl)), (mm, .inl (T 0, 600, .inl fm)), (mk, .inl (T 0, 320, .inl fk)), (m0, .inr (3, [.ref mb, .ref ml, .ref mm, .int (nI many), .int (nI 1), .ref mk]))] H := hP
  have hD : va_D A [(mb, .inl (T 0, 1920, .inl fb)), (ml, .inl (T 0, 6, .inl fl)), (mm, .inl (T 0, 600, .inl fm)), (mk, .inl (T 0, 320, .inl fk)), (m0, .inr (3, [.ref mb, .ref ml, .ref mm, .int (nI many), .int (nI 1), .ref mk]))] := hD
  refine W.eq (g2 := F0 m 30 ls [.int (nI 1)]) rfl ?_
  refine ln_if_eq_f (tgt := 35) hx hb (by omega) (by decide) dX6_put_30 (by decide) ?_
  refine lv_iconst (v := (nI 0)) hx hb dX6_put_33 (by decide +kernel) ?_
  have hP9 := hP.sub (ws' := [(m0, .inr (3, [.ref mb, .ref ml, .ref mm, .int (nI many), .int (nI 1), .ref mk])), (mb, .inl (T 0, 1920, .inl fb)), (ml, .inl (T 0, 6, .inl fl)), (mm, .inl (T 0, 600, .inl fm)), (mk, .inl (T 0, 320, .inl fk))]) [4, 0, 1, 2, 3] rfl
  have hD9 := hD.sub (ws' := [(m0, .inr (3, [.ref mb, .ref ml, .ref mm, .int (nI many), .int (nI 1), .ref mk])), (mb, .inl (T 0, 1920, .inl fb)), (ml, .inl (T 0, 6, .inl fl)), (mm, .inl (T 0, 600, .inl fm)), (mk, .inl (T 0, 320, .inl fk))]) [4, 0, 1, 2, 3] (by decide) rfl
  exact W.iret (v := (nI 0)) hx hb hr (fun t ht hW => ⟨⟨(many, (nI 1), fb, fl, fm, fk), rfl, show (nI 1) = nI 1 ∧ MR fl fb (N) (Bw) from ⟨rfl, hMR⟩, (by rw [ht]; exact hP9), va_K.moved hW.alike hK, hD9⟩, hS.F ht⟩) hS.2.2 dX6_put_34
set_option maxHeartbeats 4000000 in
set_option maxRecDepth 100000 in
theorem m_put_3 (l : Launch) (D : va_G) (T : Nat → ClassId) (g : Nat → Nat) (sz : Nat) (m0 : Nat) (mb : Nat) (ml : Nat) (mm : Nat) (mk : Nat) (many : Nat) (th : Int32) (fb : Nat → Int32) (fl : Nat → Int32) (fm : Nat → Int32) (fk : Nat → Int32) (N : Nat → Nat) (Bw : Nat → Nat → Nat) (hMR : MR fl fb N Bw) (i : Nat) (hi : i < 6) (w7 : Nat) (hp : w7 < N i) (v : Int32) (hv : v < 0 ∨ nI 255 < v) : MU l yX6_put wsX6_put ({ frames := 60, cells := 0, slots := 0, locals := 3000 } : Room) D T g [.ref m0, .int (nI i), .int (nI w7), .int v] [(m0, .inr (3, [.ref mb, .ref ml, .ref mm, .int (nI many), .int th, .ref mk])), (mb, .inl (T 0, 1920, .inl fb)), (ml, .inl (T 0, 6, .inl fl)), (mm, .inl (T 0, 600, .inl fm)), (mk, .inl (T 0, 320, .inl fk))] sz (fun u : Nat × Int32 × (Nat → Int32) × (Nat → Int32) × (Nat → Int32) × (Nat → Int32) => some (.int (nI 0))) (fun u : Nat × Int32 × (Nat → Int32) × (Nat → Int32) × (Nat → Int32) × (Nat → Int32) => u.2.1 = nI 2 ∧ MR u.2.2.2.1 u.2.2.1 (N) (Bw)) (fun u : Nat × Int32 × (Nat → Int32) × (Nat → Int32) × (Nat → Int32) × (Nat → Int32) => [(m0, .inr (3, [.ref mb, .ref ml, .ref mm, .int (nI u.1), .int u.2.1, .ref mk])), (mb, .inl (T 0, 1920, .inl u.2.2.1)), (ml, .inl (T 0, 6, .inl u.2.2.2.1)), (mm, .inl (T 0, 600, .inl u.2.2.2.2.1)), (mk, .inl (T 0, 320, .inl u.2.2.2.2.2))]) 0 0 := by
  refine Met.ofW (cc := cX6_put) (maxL := 5) (ret := (some .int)) (by decide) rfl ?_
  intro p e s m args below meth c s₁ B hml hv
  obtain ⟨rfl, hsz, hP, hK, hD0, hG⟩ := hv
  have hx := B.exec
  have hb := B.bytes
  have hr := B.returns
  have hts := atoms_spec (ws := wsX6_put) B.pre
  have hown : s.vm.findClass RX6 = some m.cls := findClass_of_methodNamed B.named
  have hlocks := B.notSynchronized
  subst hsz
  have hD := hD0.self (sz := s.heap.size)
  generalize hAe : va_A [(m0, .inr (3, [.ref mb, .ref ml, .ref mm, .int (nI many), .int th, .ref mk])), (mb, .inl (T 0, 1920, .inl fb)), (ml, .inl (T 0, 6, .inl fl)), (mm, .inl (T 0, 600, .inl fm)), (mk, .inl (T 0, 320, .inl fk))] s.heap.size = A at hD hG ⊢
  have hA : ∀ q : Nat, s.heap.size ≤ q → A q := fun q h => by rw [← hAe]; exact Or.inr h
  have hS : va_S A s.heap s.heap [] := va_S.rf
  have hP : va_P D cls [(m0, .inr (3, [.ref mb, .ref ml, .ref mm, .int (nI many), .int th, .ref mk])), (mb, .inl (T 0, 1920, .inl fb)), (ml, .inl (T 0, 6, .inl fl)), (mm, .inl (T 0, 600, .inl fm)), (mk, .inl (T 0, 320, .inl fk))] s.heap := hP
  have hl := lv_entry ([.ref m0, .int (nI i), .int (nI w7), .int v]) (n := 5) (Nat.le_of_ble_eq_true rfl)
  rw [lg_entry_eq]
  generalize (lg_sl ([.ref m0, .int (nI i), .int (nI w7), .int v]) ++ List.replicate (5 - (lg_sl ([.ref m0, .int (nI i), .int (nI w7), .int v])).length) Slot.unset).toArray = ls at hl ⊢
  have hl : lv_has ls 5 [(0, .ref m0), (1, .int (nI i)), (2, .int (nI w7)), (3, .int v)] := hl
  refine lv_aload_n hx hb dX6_put_0 rfl (lv_at hl 0 rfl) ?_
  refine lv_aload_n hx hb dX6_put_1 rfl (lv_at hl 0 rfl) ?_
  refine lv_iload_n hx hb dX6_put_2 rfl (lv_at hl 1 rfl) ?_
  refine lv_iload_n hx hb dX6_put_3 rfl (lv_at hl 2 rfl) ?_
  refine ro_V (As := [.int (nI i), .int (nI w7)]) (rest := [.ref m0]) (wc := [(m0, .inr (3, [.ref mb, .ref ml, .ref mm, .int (nI many), .int th, .ref mk])), (ml, .inl (T 0, 6, .inl fl)), (mb, .inl (T 0, 1920, .inl fb))]) (r := .int (nI 1)) ⟨hx, hb, hml, hown, hts⟩ (c_X6_isPlace_y l D T g m0 mb ml mm mk many th fb fl N Bw (hMR) i hi w7 hp) (cwV 2 hts gX6_put_X6_isPlace rfl rfl rfl (by decide +kernel) ⟨Nat.le_of_ble_eq_true rfl, Nat.le_of_ble_eq_true rfl⟩) (va_recv hK hP (ci := 3) (q0 := 0) rfl rfl) hP hK hG hS [0, 2, 1] rfl ⟨Nat.zero_le _, Nat.zero_le _⟩ rfl hl.1 (Nat.le_of_ble_eq_true rfl) dX6_put_4 rfl ?_
  refine ln_if_ne_t (tgt := 14) hx hb (by omega) (by decide) dX6_put_7 (by decide) ?_
  refine lv_aload_n hx hb dX6_put_14 rfl (lv_at hl 0 rfl) ?_
  refine lv_iload_n hx hb dX6_put_15 rfl (lv_at hl 3 rfl) ?_
  refine ro_V (As := [.int v]) (rest := [.ref m0]) (wc := []) (r := .int (nI 0)) ⟨hx, hb, hml, hown, hts⟩ (c_X6_isByte_n l D T g m0 v hv) (cwV 1 hts gX6_put_X6_isByte rfl rfl rfl (by decide +kernel) ⟨Nat.le_of_ble_eq_true rfl, Nat.le_of_ble_eq_true rfl⟩) (va_recv hK hP (ci := 3) (q0 := 0) rfl rfl) hP hK hG hS [] rfl ⟨Nat.zero_le _, Nat.zero_le _⟩ rfl hl.1 (Nat.le_of_ble_eq_true rfl) dX6_put_16 rfl ?_
  refine ln_if_ne_f (tgt := 26) hx hb (by omega) (by decide) dX6_put_19 (by decide) ?_
  refine lv_iconst (v := (nI 2)) hx hb dX6_put_22 (by decide +kernel) ?_
  refine lv_goto (tgt := 27) hx hb dX6_put_23 (by decide) ?_
  refine mu_V (As := [.int (nI 2)]) (rest := []) (wc := [(m0, .inr (3, [.ref mb, .ref ml, .ref mm, .int (nI many), .int th, .ref mk]))]) (wr := [(mb, .inl (T 0, 1920, .inl fb)), (ml, .inl (T 0, 6, .inl fl)), (mm, .inl (T 0, 600, .inl fm)), (mk, .inl (T 0, 320, .inl fk))]) ⟨hx, hb, hml, hown, hts⟩ (c_X6_isWrong_p l D T g s.heap.size m0 mb ml mm mk many th 2 (by omega)) (cwV 1 hts gX6_put_X6_isWrong rfl rfl rfl (by decide +kernel) ⟨Nat.le_of_ble_eq_true rfl, Nat.le_of_ble_eq_true rfl⟩) (va_recv hK hP (ci := 3) (q0 := 0) rfl rfl) hP hD hK hG hS hA [0] [1, 2, 3, 4] rfl (by decide) rfl (by decide) (by decide) ⟨Nat.le_of_ble_eq_true rfl, Nat.le_of_ble_eq_true rfl⟩ rfl hl.1 (Nat.le_of_ble_eq_true rfl) dX6_put_27 rfl (fun u H locs hq1 hP hD hS => ?_)
  have hP : va_P D cls [(mb, .inl (T 0, 1920, .inl fb)), (ml, .inl (T 0, 6, .inl fl)), (mm, .inl (T 0, 600, .inl fm)), (mk, .inl (T 0, 320, .inl fk)), (m0, .inr (3, [.ref mb, .ref ml, .ref mm, .int (nI many), .int (nI 2), .ref mk]))] H := hP
  have hD : va_D A [(mb, .inl (T 0, 1920, .inl fb)), (ml, .inl (T 0, 6, .inl fl)), (mm, .inl (T 0, 600, .inl fm)), (mk, .inl (T 0, 320, .inl fk)), (m0, .inr (3, [.ref mb, .ref ml, .ref mm, .int (nI many), .int (nI 2), .ref mk]))] := hD
  refine W.eq (g2 := F0 m 30 ls [.int (nI 1)]) rfl ?_
  refine ln_if_eq_f (tgt := 35) hx hb (by omega) (by decide) dX6_put_30 (by decide) ?_
  refine lv_iconst (v := (nI 0)) hx hb dX6_put_33 (by decide +kernel) ?_
  have hP9 := hP.sub (ws' := [(m0, .inr (3, [.ref mb, .ref ml, .ref mm, .int (nI many), .int (nI 2), .ref mk])), (mb, .inl (T 0, 1920, .inl fb)), (ml, .inl (T 0, 6, .inl fl)), (mm, .inl (T 0, 600, .inl fm)), (mk, .inl (T 0, 320, .inl fk))]) [4, 0, 1, 2, 3] rfl
  have hD9 := hD.sub (ws' := [(m0, .inr (3, [.ref mb, .ref ml, .ref mm, .int (nI many), .int (nI 2), .ref mk])), (mb, .inl (T 0, 1920, .inl fb)), (ml, .inl (T 0, 6, .inl fl)), (mm, .inl (T 0, 600, .inl fm)), (mk, .inl (T 0, 320, .inl fk))]) [4, 0, 1, 2, 3] (by decide) rfl
  exact W.iret (v := (nI 0)) hx hb hr (fun t ht hW => ⟨⟨(many, (nI 2), fb, fl, fm, fk), rfl, show (nI 2) = nI 2 ∧ MR fl fb (N) (Bw) from ⟨rfl, hMR⟩, (by rw [ht]; exact hP9), va_K.moved hW.alike hK, hD9⟩, hS.F ht⟩) hS.2.2 dX6_put_34
set_option maxHeartbeats 4000000 in
set_option maxRecDepth 100000 in
theorem m_put (l : Launch) (D : va_G) (T : Nat → ClassId) (g : Nat → Nat) (sz : Nat) (m0 : Nat) (mb : Nat) (ml : Nat) (mm : Nat) (mk : Nat) (many : Nat) (th : Int32) (fb : Nat → Int32) (fl : Nat → Int32) (fm : Nat → Int32) (fk : Nat → Int32) (N : Nat → Nat) (Bw : Nat → Nat → Nat) (hMR : MR fl fb N Bw) (i : Nat) (hi : i < 6) (w7 : Nat) (hp : w7 < N i) (v : Nat) (hv : v < 256) : MU l yX6_put wsX6_put ({ frames := 60, cells := 0, slots := 0, locals := 3000 } : Room) D T g [.ref m0, .int (nI i), .int (nI w7), .int (nI v)] [(m0, .inr (3, [.ref mb, .ref ml, .ref mm, .int (nI many), .int th, .ref mk])), (mb, .inl (T 0, 1920, .inl fb)), (ml, .inl (T 0, 6, .inl fl)), (mm, .inl (T 0, 600, .inl fm)), (mk, .inl (T 0, 320, .inl fk))] sz (fun u : Nat × Int32 × (Nat → Int32) × (Nat → Int32) × (Nat → Int32) × (Nat → Int32) => some (.int (nI (Bw i w7)))) (fun u : Nat × Int32 × (Nat → Int32) × (Nat → Int32) × (Nat → Int32) × (Nat → Int32) => u.2.1 = nI 0 ∧ MR u.2.2.2.1 u.2.2.1 (N) (upA Bw i (upN (Bw i) w7 v))) (fun u : Nat × Int32 × (Nat → Int32) × (Nat → Int32) × (Nat → Int32) × (Nat → Int32) => [(m0, .inr (3, [.ref mb, .ref ml, .ref mm, .int (nI u.1), .int u.2.1, .ref mk])), (mb, .inl (T 0, 1920, .inl u.2.2.1)), (ml, .inl (T 0, 6, .inl u.2.2.2.1)), (mm, .inl (T 0, 600, .inl u.2.2.2.2.1)), (mk, .inl (T 0, 320, .inl u.2.2.2.2.2))]) 0 0 := by
  refine Met.ofW (cc := cX6_put) (maxL := 5) (ret := (some .int)) (by decide) rfl ?_
  intro p e s m args below meth c s₁ B hml hv
  obtain ⟨rfl, hsz, hP, hK, hD0, hG⟩ := hv
  have hx := B.exec
  have hb := B.bytes
  have hr := B.returns
  have hts := atoms_spec (ws := wsX6_put) B.pre
  have hown : s.vm.findClass RX6 = some m.cls := findClass_of_methodNamed B.named
  have hlocks := B.notSynchronized
  have hi_X6 : ∀ w ∈ wsX60, w ∈ wsX6_put := by decide +kernel
  subst hsz
  have hD := hD0.self (sz := s.heap.size)
  generalize hAe : va_A [(m0, .inr (3, [.ref mb, .ref ml, .ref mm, .int (nI many), .int th, .ref mk])), (mb, .inl (T 0, 1920, .inl fb)), (ml, .inl (T 0, 6, .inl fl)), (mm, .inl (T 0, 600, .inl fm)), (mk, .inl (T 0, 320, .inl fk))] s.heap.size = A at hD hG ⊢
  have hA : ∀ q : Nat, s.heap.size ≤ q → A q := fun q h => by rw [← hAe]; exact Or.inr h
  have hS : va_S A s.heap s.heap [] := va_S.rf
  have hP : va_P D cls [(m0, .inr (3, [.ref mb, .ref ml, .ref mm, .int (nI many), .int th, .ref mk])), (mb, .inl (T 0, 1920, .inl fb)), (ml, .inl (T 0, 6, .inl fl)), (mm, .inl (T 0, 600, .inl fm)), (mk, .inl (T 0, 320, .inl fk))] s.heap := hP
  have hl := lv_entry ([.ref m0, .int (nI i), .int (nI w7), .int (nI v)]) (n := 5) (Nat.le_of_ble_eq_true rfl)
  rw [lg_entry_eq]
  generalize (lg_sl ([.ref m0, .int (nI i), .int (nI w7), .int (nI v)]) ++ List.replicate (5 - (lg_sl ([.ref m0, .int (nI i), .int (nI w7), .int (nI v)])).length) Slot.unset).toArray = ls at hl ⊢
  have hl : lv_has ls 5 [(0, .ref m0), (1, .int (nI i)), (2, .int (nI w7)), (3, .int (nI v))] := hl
  have hrow := hMR i hi
  have hn := hrow.2.1
  refine lv_aload_n hx hb dX6_put_0 rfl (lv_at hl 0 rfl) ?_
  refine lv_aload_n hx hb dX6_put_1 rfl (lv_at hl 0 rfl) ?_
  refine lv_iload_n hx hb dX6_put_2 rfl (lv_at hl 1 rfl) ?_
  refine lv_iload_n hx hb dX6_put_3 rfl (lv_at hl 2 rfl) ?_
  refine ro_V (As := [.int (nI i), .int (nI w7)]) (rest := [.ref m0]) (wc := [(m0, .inr (3, [.ref mb, .ref ml, .ref mm, .int (nI many), .int th, .ref mk])), (ml, .inl (T 0, 6, .inl fl)), (mb, .inl (T 0, 1920, .inl fb))]) (r := .int (nI 1)) ⟨hx, hb, hml, hown, hts⟩ (c_X6_isPlace_y l D T g m0 mb ml mm mk many th fb fl N Bw (hMR) i hi w7 hp) (cwV 2 hts gX6_put_X6_isPlace rfl rfl rfl (by decide +kernel) ⟨Nat.le_of_ble_eq_true rfl, Nat.le_of_ble_eq_true rfl⟩) (va_recv hK hP (ci := 3) (q0 := 0) rfl rfl) hP hK hG hS [0, 2, 1] rfl ⟨Nat.zero_le _, Nat.zero_le _⟩ rfl hl.1 (Nat.le_of_ble_eq_true rfl) dX6_put_4 rfl ?_
  refine ln_if_ne_t (tgt := 14) hx hb (by omega) (by decide) dX6_put_7 (by decide) ?_
  refine lv_aload_n hx hb dX6_put_14 rfl (lv_at hl 0 rfl) ?_
  refine lv_iload_n hx hb dX6_put_15 rfl (lv_at hl 3 rfl) ?_
  refine ro_V (As := [.int (nI v)]) (rest := [.ref m0]) (wc := []) (r := .int (nI 1)) ⟨hx, hb, hml, hown, hts⟩ (c_X6_isByte_y l D T g m0 v (by omega)) (cwV 1 hts gX6_put_X6_isByte rfl rfl rfl (by decide +kernel) ⟨Nat.le_of_ble_eq_true rfl, Nat.le_of_ble_eq_true rfl⟩) (va_recv hK hP (ci := 3) (q0 := 0) rfl rfl) hP hK hG hS [] rfl ⟨Nat.zero_le _, Nat.zero_le _⟩ rfl hl.1 (Nat.le_of_ble_eq_true rfl) dX6_put_16 rfl ?_
  refine ln_if_ne_t (tgt := 26) hx hb (by omega) (by decide) dX6_put_19 (by decide) ?_
  refine lv_iconst (v := (nI 0)) hx hb dX6_put_26 (by decide +kernel) ?_
  refine mu_V (As := [.int (nI 0)]) (rest := []) (wc := [(m0, .inr (3, [.ref mb, .ref ml, .ref mm, .int (nI many), .int th, .ref mk]))]) (wr := [(mb, .inl (T 0, 1920, .inl fb)), (ml, .inl (T 0, 6, .inl fl)), (mm, .inl (T 0, 600, .inl fm)), (mk, .inl (T 0, 320, .inl fk))]) ⟨hx, hb, hml, hown, hts⟩ (c_X6_isWrong_0 l D T g s.heap.size m0 mb ml mm mk many th) (cwV 1 hts gX6_put_X6_isWrong rfl rfl rfl (by decide +kernel) ⟨Nat.le_of_ble_eq_true rfl, Nat.le_of_ble_eq_true rfl⟩) (va_recv hK hP (ci := 3) (q0 := 0) rfl rfl) hP hD hK hG hS hA [0] [1, 2, 3, 4] rfl (by decide) rfl (by decide) (by decide) ⟨Nat.le_of_ble_eq_true rfl, Nat.le_of_ble_eq_true rfl⟩ rfl hl.1 (Nat.le_of_ble_eq_true rfl) dX6_put_27 rfl (fun u H locs hq1 hP hD hS => ?_)
  have hP : va_P D cls [(mb, .inl (T 0, 1920, .inl fb)), (ml, .inl (T 0, 6, .inl fl)), (mm, .inl (T 0, 600, .inl fm)), (mk, .inl (T 0, 320, .inl fk)), (m0, .inr (3, [.ref mb, .ref ml, .ref mm, .int (nI many), .int (nI 0), .ref mk]))] H := hP
  have hD : va_D A [(mb, .inl (T 0, 1920, .inl fb)), (ml, .inl (T 0, 6, .inl fl)), (mm, .inl (T 0, 600, .inl fm)), (mk, .inl (T 0, 320, .inl fk)), (m0, .inr (3, [.ref mb, .ref ml, .ref mm, .int (nI many), .int (nI 0), .ref mk]))] := hD
  refine W.eq (g2 := F0 m 30 ls [.int (nI 0)]) rfl ?_
  refine ln_if_eq_t (tgt := 35) hx hb (by omega) (by decide) dX6_put_30 (by decide) ?_
  refine lv_aload_n hx hb dX6_put_35 rfl (lv_at hl 0 rfl) ?_
  refine lv_iload_n hx hb dX6_put_36 rfl (lv_at hl 1 rfl) ?_
  refine lv_iload_n hx hb dX6_put_37 rfl (lv_at hl 2 rfl) ?_
  refine ro_V (As := [.int (nI i), .int (nI w7)]) (rest := []) (wc := [(m0, .inr (3, [.ref mb, .ref ml, .ref mm, .int (nI many), .int (nI 0), .ref mk])), (mb, .inl (T 0, 1920, .inl fb))]) (r := .int (nI ((Bw i) w7))) ⟨hx, hb, hml, hown, hts⟩ (c_X6_atB l D T g m0 mb ml mm mk many (nI 0) fb i w7 (N i) (Bw i) hi (hrow.2) (by omega)) (cwV 2 hts gX6_put_X6_at rfl rfl rfl (by decide +kernel) ⟨Nat.le_of_ble_eq_true rfl, Nat.le_of_ble_eq_true rfl⟩) (va_recv hK hP (ci := 3) (q0 := 4) rfl rfl) hP hK hG hS [4, 0] rfl ⟨Nat.zero_le _, Nat.zero_le _⟩ rfl hl.1 (Nat.le_of_ble_eq_true rfl) dX6_put_38 rfl ?_
  refine lv_istore (lv' := [(4, .int (nI ((Bw i) w7))), (0, .ref m0), (1, .int (nI i)), (2, .int (nI w7)), (3, .int (nI v))]) hx hb dX6_put_41 hl (by decide) rfl (fun ls hl => ?_)
  refine lv_aload_n hx hb dX6_put_43 rfl (lv_at hl 1 rfl) ?_
  refine va_get (D := D) (ci := 3) (v := .ref mb) (C := RX6) (T := TX6) (N := 6) hx hb hts hi_X6 hown hK hP 4 rfl rfl 0 (by decide) (hts _ (List.mem_of_getElem? (i := 1) rfl)) (fun _ h9 => h9) rfl dX6_put_44 ?_
  refine lv_sipush (v := (nI 320)) hx hb dX6_put_47 (by decide +kernel) ?_
  refine lv_iload_n hx hb dX6_put_50 rfl (lv_at hl 2 rfl) ?_
  refine ln_mul hx hb dX6_put_51 ?_
  refine lv_iload_n hx hb dX6_put_52 rfl (lv_at hl 3 rfl) ?_
  refine ln_add hx hb dX6_put_53 ?_
  refine lv_iload_n hx hb dX6_put_54 rfl (lv_at hl 4 rfl) ?_
  refine ln_iast hx hb hK hP hD hS 0 0 rfl rfl ⟨by omega, by omega⟩ dX6_put_55 (fun H locs hP hD hS => ?_)
  have hP : va_P D cls [(mb, .inl (T 0, 1920, .inl (upd fb ((320 * i) + w7) (nI v)))), (ml, .inl (T 0, 6, .inl fl)), (mm, .inl (T 0, 600, .inl fm)), (mk, .inl (T 0, 320, .inl fk)), (m0, .inr (3, [.ref mb, .ref ml, .ref mm, .int (nI many), .int (nI 0), .ref mk]))] H := hP
  have hD : va_D A [(mb, .inl (T 0, 1920, .inl (upd fb ((320 * i) + w7) (nI v)))), (ml, .inl (T 0, 6, .inl fl)), (mm, .inl (T 0, 600, .inl fm)), (mk, .inl (T 0, 320, .inl fk)), (m0, .inr (3, [.ref mb, .ref ml, .ref mm, .int (nI many), .int (nI 0), .ref mk]))] := hD
  refine lv_iload hx hb dX6_put_56 (lv_at hl 0 rfl) ?_
  have hP9 := hP.sub (ws' := [(m0, .inr (3, [.ref mb, .ref ml, .ref mm, .int (nI many), .int (nI 0), .ref mk])), (mb, .inl (T 0, 1920, .inl (upd fb ((320 * i) + w7) (nI v)))), (ml, .inl (T 0, 6, .inl fl)), (mm, .inl (T 0, 600, .inl fm)), (mk, .inl (T 0, 320, .inl fk))]) [4, 0, 1, 2, 3] rfl
  have hD9 := hD.sub (ws' := [(m0, .inr (3, [.ref mb, .ref ml, .ref mm, .int (nI many), .int (nI 0), .ref mk])), (mb, .inl (T 0, 1920, .inl (upd fb ((320 * i) + w7) (nI v)))), (ml, .inl (T 0, 6, .inl fl)), (mm, .inl (T 0, 600, .inl fm)), (mk, .inl (T 0, 320, .inl fk))]) [4, 0, 1, 2, 3] (by decide) rfl
  exact W.iret (v := (nI ((Bw i) w7))) hx hb hr (fun t ht hW => ⟨⟨(many, (nI 0), upd fb ((320 * i) + w7) (nI v), fl, fm, fk), rfl, show (nI 0) = nI 0 ∧ MR fl (upd fb ((320 * i) + w7) (nI v)) (N) (upA Bw i (upN (Bw i) w7 v)) from ⟨rfl, MR_N (MR_upd hMR hrow.1 (fun _ _ _ => rfl) (RW_upd hrow.2 w7 hv) (fun q hq => pk_un (by omega))) (fun j _ => by by_cases e : j = i; (subst e; rw [upA_s]); rw [upA_n _ _ e]) (fun _ _ => rfl)⟩, (by rw [ht]; exact hP9), va_K.moved hW.alike hK, hD9⟩, hS.F ht⟩) hS.2.2 dX6_put_58
set_option maxHeartbeats 4000000 in
set_option maxRecDepth 100000 in
theorem m_get_1 (l : Launch) (D : va_G) (T : Nat → ClassId) (g : Nat → Nat) (sz : Nat) (m0 : Nat) (mb : Nat) (ml : Nat) (mm : Nat) (mk : Nat) (many : Nat) (th : Int32) (fb : Nat → Int32) (fl : Nat → Int32) (fm : Nat → Int32) (fk : Nat → Int32) (N : Nat → Nat) (Bw : Nat → Nat → Nat) (hMR : MR fl fb N Bw) (i : Int32) (hi : i < 0 ∨ nI 5 < i) (x0 : Int32) : MU l yX6_get wsX6_get ({ frames := 60, cells := 0, slots := 0, locals := 3000 } : Room) D T g [.ref m0, .int i, .int x0] [(m0, .inr (3, [.ref mb, .ref ml, .ref mm, .int (nI many), .int th, .ref mk])), (mb, .inl (T 0, 1920, .inl fb)), (ml, .inl (T 0, 6, .inl fl)), (mm, .inl (T 0, 600, .inl fm)), (mk, .inl (T 0, 320, .inl fk))] sz (fun u : Nat × Int32 × (Nat → Int32) × (Nat → Int32) × (Nat → Int32) × (Nat → Int32) => some (.int (nI 0))) (fun u : Nat × Int32 × (Nat → Int32) × (Nat → Int32) × (Nat → Int32) × (Nat → Int32) => u.2.1 = nI 1 ∧ MR u.2.2.2.1 u.2.2.1 (N) (Bw)) (fun u : Nat × Int32 × (Nat → Int32) × (Nat → Int32) × (Nat → Int32) × (Nat → Int32) => [(m0, .inr (3, [.ref mb, .ref ml, .ref mm, .int (nI u.1), .int u.2.1, .ref mk])), (mb, .inl (T 0, 1920, .inl u.2.2.1)), (ml, .inl (T 0, 6, .inl u.2.2.2.1)), (mm, .inl (T 0, 600, .inl u.2.2.2.2.1)), (mk, .inl (T 0, 320, .inl u.2.2.2.2.2))]) 0 0 := by
  refine Met.ofW (cc := cX6_get) (maxL := 3) (ret := (some .int)) (by decide) rfl ?_
  intro p e s m args below meth c s₁ B hml hv
  obtain ⟨rfl, hsz, hP, hK, hD0, hG⟩ := hv
  have hx := B.exec
  have hb := B.bytes
  have hr := B.returns
  have hts := atoms_spec (ws := wsX6_get) B.pre
  have hown : s.vm.findClass RX6 = some m.cls := findClass_of_methodNamed B.named
  have hlocks := B.notSynchronized
  subst hsz
  have hD := hD0.self (sz := s.heap.size)
  generalize hAe : va_A [(m0, .inr (3, [.ref mb, .ref ml, .ref mm, .int (nI many), .int th, .ref mk])), (mb, .inl (T 0, 1920, .inl fb)), (ml, .inl (T 0, 6, .inl fl)), (mm, .inl (T 0, 600, .inl fm)), (mk, .inl (T 0, 320, .inl fk))] s.heap.size = A at hD hG ⊢
  have hA : ∀ q : Nat, s.heap.size ≤ q → A q := fun q h => by rw [← hAe]; exact Or.inr h
  have hS : va_S A s.heap s.heap [] := va_S.rf
  have hP : va_P D cls [(m0, .inr (3, [.ref mb, .ref ml, .ref mm, .int (nI many), .int th, .ref mk])), (mb, .inl (T 0, 1920, .inl fb)), (ml, .inl (T 0, 6, .inl fl)), (mm, .inl (T 0, 600, .inl fm)), (mk, .inl (T 0, 320, .inl fk))] s.heap := hP
  have hl := lv_entry ([.ref m0, .int i, .int x0]) (n := 3) (Nat.le_of_ble_eq_true rfl)
  rw [lg_entry_eq]
  generalize (lg_sl ([.ref m0, .int i, .int x0]) ++ List.replicate (3 - (lg_sl ([.ref m0, .int i, .int x0])).length) Slot.unset).toArray = ls at hl ⊢
  have hl : lv_has ls 3 [(0, .ref m0), (1, .int i), (2, .int x0)] := hl
  refine lv_aload_n hx hb dX6_get_0 rfl (lv_at hl 0 rfl) ?_
  refine lv_aload_n hx hb dX6_get_1 rfl (lv_at hl 0 rfl) ?_
  refine lv_iload_n hx hb dX6_get_2 rfl (lv_at hl 1 rfl) ?_
  refine lv_iload_n hx hb dX6_get_3 rfl (lv_at hl 2 rfl) ?_
  refine ro_V (As := [.int i, .int x0]) (rest := [.ref m0]) (wc := [(m0, .inr (3, [.ref mb, .ref ml, .ref mm, .int (nI many), .int th, .ref mk]))]) (r := .int (nI 0)) ⟨hx, hb, hml, hown, hts⟩ (c_X6_isPlace_r l D T g m0 mb ml mm mk many th i hi x0) (cwV 2 hts gX6_get_X6_isPlace rfl rfl rfl (by decide +kernel) ⟨Nat.le_of_ble_eq_true rfl, Nat.le_of_ble_eq_true rfl⟩) (va_recv hK hP (ci := 3) (q0 := 0) rfl rfl) hP hK hG hS [0] rfl ⟨Nat.zero_le _, Nat.zero_le _⟩ rfl hl.1 (Nat.le_of_ble_eq_true rfl) dX6_get_4 rfl ?_
  refine ln_if_eq_t (tgt := 14) hx hb (by omega) (by decide) dX6_get_7 (by decide) ?_
  refine lv_iconst (v := (nI 1)) hx hb dX6_get_14 (by decide +kernel) ?_
  refine mu_V (As := [.int (nI 1)]) (rest := []) (wc := [(m0, .inr (3, [.ref mb, .ref ml, .ref mm, .int (nI many), .int th, .ref mk]))]) (wr := [(mb, .inl (T 0, 1920, .inl fb)), (ml, .inl (T 0, 6, .inl fl)), (mm, .inl (T 0, 600, .inl fm)), (mk, .inl (T 0, 320, .inl fk))]) ⟨hx, hb, hml, hown, hts⟩ (c_X6_isWrong_p l D T g s.heap.size m0 mb ml mm mk many th 1 (by omega)) (cwV 1 hts gX6_get_X6_isWrong rfl rfl rfl (by decide +kernel) ⟨Nat.le_of_ble_eq_true rfl, Nat.le_of_ble_eq_true rfl⟩) (va_recv hK hP (ci := 3) (q0 := 0) rfl rfl) hP hD hK hG hS hA [0] [1, 2, 3, 4] rfl (by decide) rfl (by decide) (by decide) ⟨Nat.le_of_ble_eq_true rfl, Nat.le_of_ble_eq_true rfl⟩ rfl hl.1 (Nat.le_of_ble_eq_true rfl) dX6_get_15 rfl (fun u H locs hq1 hP hD hS => ?_)
  have hP : va_P D cls [(mb, .inl (T 0, 1920, .inl fb)), (ml, .inl (T 0, 6, .inl fl)), (mm, .inl (T 0, 600, .inl fm)), (mk, .inl (T 0, 320, .inl fk)), (m0, .inr (3, [.ref mb, .ref ml, .ref mm, .int (nI many), .int (nI 1), .ref mk]))] H := hP
  have hD : va_D A [(mb, .inl (T 0, 1920, .inl fb)), (ml, .inl (T 0, 6, .inl fl)), (mm, .inl (T 0, 600, .inl fm)), (mk, .inl (T 0, 320, .inl fk)), (m0, .inr (3, [.ref mb, .ref ml, .ref mm, .int (nI many), .int (nI 1), .ref mk]))] := hD
  refine W.eq (g2 := F0 m 18 ls [.int (nI 1)]) rfl ?_
  refine ln_if_eq_f (tgt := 25) hx hb (by omega) (by decide) dX6_get_18 (by decide) ?_
  refine lv_iconst (v := (nI 0)) hx hb dX6_get_21 (by decide +kernel) ?_
  refine lv_goto (tgt := 31) hx hb dX6_get_22 (by decide) ?_
  have hP9 := hP.sub (ws' := [(m0, .inr (3, [.ref mb, .ref ml, .ref mm, .int (nI many), .int (nI 1), .ref mk])), (mb, .inl (T 0, 1920, .inl fb)), (ml, .inl (T 0, 6, .inl fl)), (mm, .inl (T 0, 600, .inl fm)), (mk, .inl (T 0, 320, .inl fk))]) [4, 0, 1, 2, 3] rfl
  have hD9 := hD.sub (ws' := [(m0, .inr (3, [.ref mb, .ref ml, .ref mm, .int (nI many), .int (nI 1), .ref mk])), (mb, .inl (T 0, 1920, .inl fb)), (ml, .inl (T 0, 6, .inl fl)), (mm, .inl (T 0, 600, .inl fm)), (mk, .inl (T 0, 320, .inl fk))]) [4, 0, 1, 2, 3] (by decide) rfl
  exact W.iret (v := (nI 0)) hx hb hr (fun t ht hW => ⟨⟨(many, (nI 1), fb, fl, fm, fk), rfl, show (nI 1) = nI 1 ∧ MR fl fb (N) (Bw) from ⟨rfl, hMR⟩, (by rw [ht]; exact hP9), va_K.moved hW.alike hK, hD9⟩, hS.F ht⟩) hS.2.2 dX6_get_31
set_option maxHeartbeats 4000000 in
set_option maxRecDepth 100000 in
theorem m_get_2 (l : Launch) (D : va_G) (T : Nat → ClassId) (g : Nat → Nat) (sz : Nat) (m0 : Nat) (mb : Nat) (ml : Nat) (mm : Nat) (mk : Nat) (many : Nat) (th : Int32) (fb : Nat → Int32) (fl : Nat → Int32) (fm : Nat → Int32) (fk : Nat → Int32) (N : Nat → Nat) (Bw : Nat → Nat → Nat) (hMR : MR fl fb N Bw) (i : Nat) (hi : i < 6) (w7 : Int32) (hp : w7 < 0 ∨ nI (N i) ≤ w7) : MU l yX6_get wsX6_get ({ frames := 60, cells := 0, slots := 0, locals := 3000 } : Room) D T g [.ref m0, .int (nI i), .int w7] [(m0, .inr (3, [.ref mb, .ref ml, .ref mm, .int (nI many), .int th, .ref mk])), (mb, .inl (T 0, 1920, .inl fb)), (ml, .inl (T 0, 6, .inl fl)), (mm, .inl (T 0, 600, .inl fm)), (mk, .inl (T 0, 320, .inl fk))] sz (fun u : Nat × Int32 × (Nat → Int32) × (Nat → Int32) × (Nat → Int32) × (Nat → Int32) => some (.int (nI 0))) (fun u : Nat × Int32 × (Nat → Int32) × (Nat → Int32) × (Nat → Int32) × (Nat → Int32) => u.2.1 = nI 1 ∧ MR u.2.2.2.1 u.2.2.1 (N) (Bw)) (fun u : Nat × Int32 × (Nat → Int32) × (Nat → Int32) × (Nat → Int32) × (Nat → Int32) => [(m0, .inr (3, [.ref mb, .ref ml, .ref mm, .int (nI u.1), .int u.2.1, .ref mk])), (mb, .inl (T 0, 1920, .inl u.2.2.1)), (ml, .inl (T 0, 6, .inl u.2.2.2.1)), (mm, .inl (T 0, 600, .inl u.2.2.2.2.1)), (mk, .inl (T 0, 320, .inl u.2.2.2.2.2))]) 0 0 := by
  refine Met.ofW (cc := cX6_get) (maxL := 3) (ret := (some .int)) (by decide) rfl ?_
  intro p e s m args below meth c s₁ B hml hv
  obtain ⟨rfl, hsz, hP, hK, hD0, hG⟩ := hv
  have hx := B.exec
  have hb := B.bytes
  have hr := B.returns
  have hts := atoms_spec (ws := wsX6_get) B.pre
  have hown : s.vm.findClass RX6 = some m.cls := findClass_of_methodNamed B.named
  have hlocks := B.notSynchronized
  subst hsz
  have hD := hD0.self (sz := s.heap.size)
  generalize hAe : va_A [(m0, .inr (3, [.ref mb, .ref ml, .ref mm, .int (nI many), .int th, .ref mk])), (mb, .inl (T 0, 1920, .inl fb)), (ml, .inl (T 0, 6, .inl fl)), (mm, .inl (T 0, 600, .inl fm)), (mk, .inl (T 0, 320, .inl fk))] s.heap.size = A at hD hG ⊢
  have hA : ∀ q : Nat, s.heap.size ≤ q → A q := fun q h => by rw [← hAe]; exact Or.inr h
  have hS : va_S A s.heap s.heap [] := va_S.rf
  have hP : va_P D cls [(m0, .inr (3, [.ref mb, .ref ml, .ref mm, .int (nI many), .int th, .ref mk])), (mb, .inl (T 0, 1920, .inl fb)), (ml, .inl (T 0, 6, .inl fl)), (mm, .inl (T 0, 600, .inl fm)), (mk, .inl (T 0, 320, .inl fk))] s.heap := hP
  have hl := lv_entry ([.ref m0, .int (nI i), .int w7]) (n := 3) (Nat.le_of_ble_eq_true rfl)
  rw [lg_entry_eq]
  generalize (lg_sl ([.ref m0, .int (nI i), .int w7]) ++ List.replicate (3 - (lg_sl ([.ref m0, .int (nI i), .int w7])).length) Slot.unset).toArray = ls at hl ⊢
  have hl : lv_has ls 3 [(0, .ref m0), (1, .int (nI i)), (2, .int w7)] := hl
  refine lv_aload_n hx hb dX6_get_0 rfl (lv_at hl 0 rfl) ?_
  refine lv_aload_n hx hb dX6_get_1 rfl (lv_at hl 0 rfl) ?_
  refine lv_iload_n hx hb dX6_get_2 rfl (lv_at hl 1 rfl) ?_
  refine lv_iload_n hx hb dX6_get_3 rfl (lv_at hl 2 rfl) ?_
  refine ro_V (As := [.int (nI i), .int w7]) (rest := [.ref m0]) (wc := [(m0, .inr (3, [.ref mb, .ref ml, .ref mm, .int (nI many), .int th, .ref mk])), (ml, .inl (T 0, 6, .inl fl)), (mb, .inl (T 0, 1920, .inl fb))]) (r := .int (nI 0)) ⟨hx, hb, hml, hown, hts⟩ (c_X6_isPlace_n l D T g m0 mb ml mm mk many th fb fl N Bw (hMR) i hi w7 hp) (cwV 2 hts gX6_get_X6_isPlace rfl rfl rfl (by decide +kernel) ⟨Nat.le_of_ble_eq_true rfl, Nat.le_of_ble_eq_true rfl⟩) (va_recv hK hP (ci := 3) (q0 := 0) rfl rfl) hP hK hG hS [0, 2, 1] rfl ⟨Nat.zero_le _, Nat.zero_le _⟩ rfl hl.1 (Nat.le_of_ble_eq_true rfl) dX6_get_4 rfl ?_
  refine ln_if_eq_t (tgt := 14) hx hb (by omega) (by decide) dX6_get_7 (by decide) ?_
  refine lv_iconst (v := (nI 1)) hx hb dX6_get_14 (by decide +kernel) ?_
  refine mu_V (As := [.int (nI 1)]) (rest := []) (wc := [(m0, .inr (3, [.ref mb, .ref ml, .ref mm, .int (nI many), .int th, .ref mk]))]) (wr := [(mb, .inl (T 0, 1920, .inl fb)), (ml, .inl (T 0, 6, .inl fl)), (mm, .inl (T 0, 600, .inl fm)), (mk, .inl (T 0, 320, .inl fk))]) ⟨hx, hb, hml, hown, hts⟩ (c_X6_isWrong_p l D T g s.heap.size m0 mb ml mm mk many th 1 (by omega)) (cwV 1 hts gX6_get_X6_isWrong rfl rfl rfl (by decide +kernel) ⟨Nat.le_of_ble_eq_true rfl, Nat.le_of_ble_eq_true rfl⟩) (va_recv hK hP (ci := 3) (q0 := 0) rfl rfl) hP hD hK hG hS hA [0] [1, 2, 3, 4] rfl (by decide) rfl (by decide) (by decide) ⟨Nat.le_of_ble_eq_true rfl, Nat.le_of_ble_eq_true rfl⟩ rfl hl.1 (Nat.le_of_ble_eq_true rfl) dX6_get_15 rfl (fun u H locs hq1 hP hD hS => ?_)
  have hP : va_P D cls [(mb, .inl (T 0, 1920, .inl fb)), (ml, .inl (T 0, 6, .inl fl)), (mm, .inl (T 0, 600, .inl fm)), (mk, .inl (T 0, 320, .inl fk)), (m0, .inr (3, [.ref mb, .ref ml, .ref mm, .int (nI many), .int (nI 1), .ref mk]))] H := hP
  have hD : va_D A [(mb, .inl (T 0, 1920, .inl fb)), (ml, .inl (T 0, 6, .inl fl)), (mm, .inl (T 0, 600, .inl fm)), (mk, .inl (T 0, 320, .inl fk)), (m0, .inr (3, [.ref mb, .ref ml, .ref mm, .int (nI many), .int (nI 1), .ref mk]))] := hD
  refine W.eq (g2 := F0 m 18 ls [.int (nI 1)]) rfl ?_
  refine ln_if_eq_f (tgt := 25) hx hb (by omega) (by decide) dX6_get_18 (by decide) ?_
  refine lv_iconst (v := (nI 0)) hx hb dX6_get_21 (by decide +kernel) ?_
  refine lv_goto (tgt := 31) hx hb dX6_get_22 (by decide) ?_
  have hP9 := hP.sub (ws' := [(m0, .inr (3, [.ref mb, .ref ml, .ref mm, .int (nI many), .int (nI 1), .ref mk])), (mb, .inl (T 0, 1920, .inl fb)), (ml, .inl (T 0, 6, .inl fl)), (mm, .inl (T 0, 600, .inl fm)), (mk, .inl (T 0, 320, .inl fk))]) [4, 0, 1, 2, 3] rfl
  have hD9 := hD.sub (ws' := [(m0, .inr (3, [.ref mb, .ref ml, .ref mm, .int (nI many), .int (nI 1), .ref mk])), (mb, .inl (T 0, 1920, .inl fb)), (ml, .inl (T 0, 6, .inl fl)), (mm, .inl (T 0, 600, .inl fm)), (mk, .inl (T 0, 320, .inl fk))]) [4, 0, 1, 2, 3] (by decide) rfl
  exact W.iret (v := (nI 0)) hx hb hr (fun t ht hW => ⟨⟨(many, (nI 1), fb, fl, fm, fk), rfl, show (nI 1) = nI 1 ∧ MR fl fb (N) (Bw) from ⟨rfl, hMR⟩, (by rw [ht]; exact hP9), va_K.moved hW.alike hK, hD9⟩, hS.F ht⟩) hS.2.2 dX6_get_31
set_option maxHeartbeats 4000000 in
set_option maxRecDepth 100000 in
theorem m_get (l : Launch) (D : va_G) (T : Nat → ClassId) (g : Nat → Nat) (sz : Nat) (m0 : Nat) (mb : Nat) (ml : Nat) (mm : Nat) (mk : Nat) (many : Nat) (th : Int32) (fb : Nat → Int32) (fl : Nat → Int32) (fm : Nat → Int32) (fk : Nat → Int32) (N : Nat → Nat) (Bw : Nat → Nat → Nat) (hMR : MR fl fb N Bw) (i : Nat) (hi : i < 6) (w7 : Nat) (hp : w7 < N i) : MU l yX6_get wsX6_get ({ frames := 60, cells := 0, slots := 0, locals := 3000 } : Room) D T g [.ref m0, .int (nI i), .int (nI w7)] [(m0, .inr (3, [.ref mb, .ref ml, .ref mm, .int (nI many), .int th, .ref mk])), (mb, .inl (T 0, 1920, .inl fb)), (ml, .inl (T 0, 6, .inl fl)), (mm, .inl (T 0, 600, .inl fm)), (mk, .inl (T 0, 320, .inl fk))] sz (fun u : Nat × Int32 × (Nat → Int32) × (Nat → Int32) × (Nat → Int32) × (Nat → Int32) => some (.int (nI (Bw i w7)))) (fun u : Nat × Int32 × (Nat → Int32) × (Nat → Int32) × (Nat → Int32) × (Nat → Int32) => u.2.1 = nI 0 ∧ MR u.2.2.2.1 u.2.2.1 (N) (Bw)) (fun u : Nat × Int32 × (Nat → Int32) × (Nat → Int32) × (Nat → Int32) × (Nat → Int32) => [(m0, .inr (3, [.ref mb, .ref ml, .ref mm, .int (nI u.1), .int u.2.1, .ref mk])), (mb, .inl (T 0, 1920, .inl u.2.2.1)), (ml, .inl (T 0, 6, .inl u.2.2.2.1)), (mm, .inl (T 0, 600, .inl u.2.2.2.2.1)), (mk, .inl (T 0, 320, .inl u.2.2.2.2.2))]) 0 0 := by
  refine Met.ofW (cc := cX6_get) (maxL := 3) (ret := (some .int)) (by decide) rfl ?_
  intro p e s m args below meth c s₁ B hml hv
  obtain ⟨rfl, hsz, hP, hK, hD0, hG⟩ := hv
  have hx := B.exec
  have hb := B.bytes
  have hr := B.returns
  have hts := atoms_spec (ws := wsX6_get) B.pre
  have hown : s.vm.findClass RX6 = some m.cls := findClass_of_methodNamed B.named
  have hlocks := B.notSynchronized
  subst hsz
  have hD := hD0.self (sz := s.heap.size)
  generalize hAe : va_A [(m0, .inr (3, [.ref mb, .ref ml, .ref mm, .int (nI many), .int th, .ref mk])), (mb, .inl (T 0, 1920, .inl fb)), (ml, .inl (T 0, 6, .inl fl)), (mm, .inl (T 0, 600, .inl fm)), (mk, .inl (T 0, 320, .inl fk))] s.heap.size = A at hD hG ⊢
  have hA : ∀ q : Nat, s.heap.size ≤ q → A q := fun q h => by rw [← hAe]; exact Or.inr h
  have hS : va_S A s.heap s.heap [] := va_S.rf
  have hP : va_P D cls [(m0, .inr (3, [.ref mb, .ref ml, .ref mm, .int (nI many), .int th, .ref mk])), (mb, .inl (T 0, 1920, .inl fb)), (ml, .inl (T 0, 6, .inl fl)), (mm, .inl (T 0, 600, .inl fm)), (mk, .inl (T 0, 320, .inl fk))] s.heap := hP
  have hl := lv_entry ([.ref m0, .int (nI i), .int (nI w7)]) (n := 3) (Nat.le_of_ble_eq_true rfl)
  rw [lg_entry_eq]
  generalize (lg_sl ([.ref m0, .int (nI i), .int (nI w7)]) ++ List.replicate (3 - (lg_sl ([.ref m0, .int (nI i), .int (nI w7)])).length) Slot.unset).toArray = ls at hl ⊢
  have hl : lv_has ls 3 [(0, .ref m0), (1, .int (nI i)), (2, .int (nI w7))] := hl
  have hrow := hMR i hi
  have hn := hrow.2.1
  refine lv_aload_n hx hb dX6_get_0 rfl (lv_at hl 0 rfl) ?_
  refine lv_aload_n hx hb dX6_get_1 rfl (lv_at hl 0 rfl) ?_
  refine lv_iload_n hx hb dX6_get_2 rfl (lv_at hl 1 rfl) ?_
  refine lv_iload_n hx hb dX6_get_3 rfl (lv_at hl 2 rfl) ?_
  refine ro_V (As := [.int (nI i), .int (nI w7)]) (rest := [.ref m0]) (wc := [(m0, .inr (3, [.ref mb, .ref ml, .ref mm, .int (nI many), .int th, .ref mk])), (ml, .inl (T 0, 6, .inl fl)), (mb, .inl (T 0, 1920, .inl fb))]) (r := .int (nI 1)) ⟨hx, hb, hml, hown, hts⟩ (c_X6_isPlace_y l D T g m0 mb ml mm mk many th fb fl N Bw (hMR) i hi w7 hp) (cwV 2 hts gX6_get_X6_isPlace rfl rfl rfl (by decide +kernel) ⟨Nat.le_of_ble_eq_true rfl, Nat.le_of_ble_eq_true rfl⟩) (va_recv hK hP (ci := 3) (q0 := 0) rfl rfl) hP hK hG hS [0, 2, 1] rfl ⟨Nat.zero_le _, Nat.zero_le _⟩ rfl hl.1 (Nat.le_of_ble_eq_true rfl) dX6_get_4 rfl ?_
  refine ln_if_eq_f (tgt := 14) hx hb (by omega) (by decide) dX6_get_7 (by decide) ?_
  refine lv_iconst (v := (nI 0)) hx hb dX6_get_10 (by decide +kernel) ?_
  refine lv_goto (tgt := 15) hx hb dX6_get_11 (by decide) ?_
  refine mu_V (As := [.int (nI 0)]) (rest := []) (wc := [(m0, .inr (3, [.ref mb, .ref ml, .ref mm, .int (nI many), .int th, .ref mk]))]) (wr := [(mb, .inl (T 0, 1920, .inl fb)), (ml, .inl (T 0, 6, .inl fl)), (mm, .inl (T 0, 600, .inl fm)), (mk, .inl (T 0, 320, .inl fk))]) ⟨hx, hb, hml, hown, hts⟩ (c_X6_isWrong_0 l D T g s.heap.size m0 mb ml mm mk many th) (cwV 1 hts gX6_get_X6_isWrong rfl rfl rfl (by decide +kernel) ⟨Nat.le_of_ble_eq_true rfl, Nat.le_of_ble_eq_true rfl⟩) (va_recv hK hP (ci := 3) (q0 := 0) rfl rfl) hP hD hK hG hS hA [0] [1, 2, 3, 4] rfl (by decide) rfl (by decide) (by decide) ⟨Nat.le_of_ble_eq_true rfl, Nat.le_of_ble_eq_true rfl⟩ rfl hl.1 (Nat.le_of_ble_eq_true rfl) dX6_get_15 rfl (fun u H locs hq1 hP hD hS => ?_)
  have hP : va_P D cls [(mb, .inl (T 0, 1920, .inl fb)), (ml, .inl (T 0, 6, .inl fl)), (mm, .inl (T 0, 600, .inl fm)), (mk, .inl (T 0, 320, .inl fk)), (m0, .inr (3, [.ref mb, .ref ml, .ref mm, .int (nI many), .int (nI 0), .ref mk]))] H := hP
  have hD : va_D A [(mb, .inl (T 0, 1920, .inl fb)), (ml, .inl (T 0, 6, .inl fl)), (mm, .inl (T 0, 600, .inl fm)), (mk, .inl (T 0, 320, .inl fk)), (m0, .inr (3, [.ref mb, .ref ml, .ref mm, .int (nI many), .int (nI 0), .ref mk]))] := hD
  refine W.eq (g2 := F0 m 18 ls [.int (nI 0)]) rfl ?_
  refine ln_if_eq_t (tgt := 25) hx hb (by omega) (by decide) dX6_get_18 (by decide) ?_
  refine lv_aload_n hx hb dX6_get_25 rfl (lv_at hl 0 rfl) ?_
  refine lv_iload_n hx hb dX6_get_26 rfl (lv_at hl 1 rfl) ?_
  refine lv_iload_n hx hb dX6_get_27 rfl (lv_at hl 2 rfl) ?_
  refine ro_V (As := [.int (nI i), .int (nI w7)]) (rest := []) (wc := [(m0, .inr (3, [.ref mb, .ref ml, .ref mm, .int (nI many), .int (nI 0), .ref mk])), (mb, .inl (T 0, 1920, .inl fb))]) (r := .int (nI ((Bw i) w7))) ⟨hx, hb, hml, hown, hts⟩ (c_X6_atB l D T g m0 mb ml mm mk many (nI 0) fb i w7 (N i) (Bw i) hi (hrow.2) (by omega)) (cwV 2 hts gX6_get_X6_at rfl rfl rfl (by decide +kernel) ⟨Nat.le_of_ble_eq_true rfl, Nat.le_of_ble_eq_true rfl⟩) (va_recv hK hP (ci := 3) (q0 := 4) rfl rfl) hP hK hG hS [4, 0] rfl ⟨Nat.zero_le _, Nat.zero_le _⟩ rfl hl.1 (Nat.le_of_ble_eq_true rfl) dX6_get_28 rfl ?_
  have hP9 := hP.sub (ws' := [(m0, .inr (3, [.ref mb, .ref ml, .ref mm, .int (nI many), .int (nI 0), .ref mk])), (mb, .inl (T 0, 1920, .inl fb)), (ml, .inl (T 0, 6, .inl fl)), (mm, .inl (T 0, 600, .inl fm)), (mk, .inl (T 0, 320, .inl fk))]) [4, 0, 1, 2, 3] rfl
  have hD9 := hD.sub (ws' := [(m0, .inr (3, [.ref mb, .ref ml, .ref mm, .int (nI many), .int (nI 0), .ref mk])), (mb, .inl (T 0, 1920, .inl fb)), (ml, .inl (T 0, 6, .inl fl)), (mm, .inl (T 0, 600, .inl fm)), (mk, .inl (T 0, 320, .inl fk))]) [4, 0, 1, 2, 3] (by decide) rfl
  exact W.iret (v := (nI ((Bw i) w7))) hx hb hr (fun t ht hW => ⟨⟨(many, (nI 0), fb, fl, fm, fk), rfl, show (nI 0) = nI 0 ∧ MR fl fb (N) (Bw) from ⟨rfl, hMR⟩, (by rw [ht]; exact hP9), va_K.moved hW.alike hK, hD9⟩, hS.F ht⟩) hS.2.2 dX6_get_31
set_option maxHeartbeats 4000000 in
set_option maxRecDepth 100000 in
theorem m_length_1 (l : Launch) (D : va_G) (T : Nat → ClassId) (g : Nat → Nat) (sz : Nat) (m0 : Nat) (mb : Nat) (ml : Nat) (mm : Nat) (mk : Nat) (many : Nat) (th : Int32) (fb : Nat → Int32) (fl : Nat → Int32) (fm : Nat → Int32) (fk : Nat → Int32) (N : Nat → Nat) (Bw : Nat → Nat → Nat) (hMR : MR fl fb N Bw) (i : Int32) (hi : i < 0 ∨ nI 5 < i) : MU l yX6_length wsX6_length ({ frames := 60, cells := 0, slots := 0, locals := 3000 } : Room) D T g [.ref m0, .int i] [(m0, .inr (3, [.ref mb, .ref ml, .ref mm, .int (nI many), .int th, .ref mk])), (mb, .inl (T 0, 1920, .inl fb)), (ml, .inl (T 0, 6, .inl fl)), (mm, .inl (T 0, 600, .inl fm)), (mk, .inl (T 0, 320, .inl fk))] sz (fun u : Nat × Int32 × (Nat → Int32) × (Nat → Int32) × (Nat → Int32) × (Nat → Int32) => some (.int (nI 0))) (fun u : Nat × Int32 × (Nat → Int32) × (Nat → Int32) × (Nat → Int32) × (Nat → Int32) => u.2.1 = nI 1 ∧ MR u.2.2.2.1 u.2.2.1 (N) (Bw)) (fun u : Nat × Int32 × (Nat → Int32) × (Nat → Int32) × (Nat → Int32) × (Nat → Int32) => [(m0, .inr (3, [.ref mb, .ref ml, .ref mm, .int (nI u.1), .int u.2.1, .ref mk])), (mb, .inl (T 0, 1920, .inl u.2.2.1)), (ml, .inl (T 0, 6, .inl u.2.2.2.1)), (mm, .inl (T 0, 600, .inl u.2.2.2.2.1)), (mk, .inl (T 0, 320, .inl u.2.2.2.2.2))]) 0 0 := by
  refine Met.ofW (cc := cX6_length) (maxL := 2) (ret := (some .int)) (by decide) rfl ?_
  intro p e s m args below meth c s₁ B hml hv
  obtain ⟨rfl, hsz, hP, hK, hD0, hG⟩ := hv
  have hx := B.exec
  have hb := B.bytes
  have hr := B.returns
  have hts := atoms_spec (ws := wsX6_length) B.pre
  have hown : s.vm.findClass RX6 = some m.cls := findClass_of_methodNamed B.named
  have hlocks := B.notSynchronized
  subst hsz
  have hD := hD0.self (sz := s.heap.size)
  generalize hAe : va_A [(m0, .inr (3, [.ref mb, .ref ml, .ref mm, .int (nI many), .int th, .ref mk])), (mb, .inl (T 0, 1920, .inl fb)), (ml, .inl (T 0, 6, .inl fl)), (mm, .inl (T 0, 600, .inl fm)), (mk, .inl (T 0, 320, .inl fk))] s.heap.size = A at hD hG ⊢
  have hA : ∀ q : Nat, s.heap.size ≤ q → A q := fun q h => by rw [← hAe]; exact Or.inr h
  have hS : va_S A s.heap s.heap [] := va_S.rf
  have hP : va_P D cls [(m0, .inr (3, [.ref mb, .ref ml, .ref mm, .int (nI many), .int th, .ref mk])), (mb, .inl (T 0, 1920, .inl fb)), (ml, .inl (T 0, 6, .inl fl)), (mm, .inl (T 0, 600, .inl fm)), (mk, .inl (T 0, 320, .inl fk))] s.heap := hP
  have hl := lv_entry ([.ref m0, .int i]) (n := 2) (Nat.le_of_ble_eq_true rfl)
  rw [lg_entry_eq]
  generalize (lg_sl ([.ref m0, .int i]) ++ List.replicate (2 - (lg_sl ([.ref m0, .int i])).length) Slot.unset).toArray = ls at hl ⊢
  have hl : lv_has ls 2 [(0, .ref m0), (1, .int i)] := hl
  refine lv_aload_n hx hb dX6_length_0 rfl (lv_at hl 0 rfl) ?_
  refine lv_aload_n hx hb dX6_length_1 rfl (lv_at hl 0 rfl) ?_
  refine lv_iload_n hx hb dX6_length_2 rfl (lv_at hl 1 rfl) ?_
  refine ro_V (As := [.int i]) (rest := [.ref m0]) (wc := []) (r := .int (nI 0)) ⟨hx, hb, hml, hown, hts⟩ (c_X6_isRow_n l D T g m0 i hi) (cwV 1 hts gX6_length_X6_isRow rfl rfl rfl (by decide +kernel) ⟨Nat.le_of_ble_eq_true rfl, Nat.le_of_ble_eq_true rfl⟩) (va_recv hK hP (ci := 3) (q0 := 0) rfl rfl) hP hK hG hS [] rfl ⟨Nat.zero_le _, Nat.zero_le _⟩ rfl hl.1 (Nat.le_of_ble_eq_true rfl) dX6_length_3 rfl ?_
  refine ln_if_eq_t (tgt := 13) hx hb (by omega) (by decide) dX6_length_6 (by decide) ?_
  refine lv_iconst (v := (nI 1)) hx hb dX6_length_13 (by decide +kernel) ?_
  refine mu_V (As := [.int (nI 1)]) (rest := []) (wc := [(m0, .inr (3, [.ref mb, .ref ml, .ref mm, .int (nI many), .int th, .ref mk]))]) (wr := [(mb, .inl (T 0, 1920, .inl fb)), (ml, .inl (T 0, 6, .inl fl)), (mm, .inl (T 0, 600, .inl fm)), (mk, .inl (T 0, 320, .inl fk))]) ⟨hx, hb, hml, hown, hts⟩ (c_X6_isWrong_p l D T g s.heap.size m0 mb ml mm mk many th 1 (by omega)) (cwV 1 hts gX6_length_X6_isWrong rfl rfl rfl (by decide +kernel) ⟨Nat.le_of_ble_eq_true rfl, Nat.le_of_ble_eq_true rfl⟩) (va_recv hK hP (ci := 3) (q0 := 0) rfl rfl) hP hD hK hG hS hA [0] [1, 2, 3, 4] rfl (by decide) rfl (by decide) (by decide) ⟨Nat.le_of_ble_eq_true rfl, Nat.le_of_ble_eq_true rfl⟩ rfl hl.1 (Nat.le_of_ble_eq_true rfl) dX6_length_14 rfl (fun u H locs hq1 hP hD hS => ?_)
  have hP : va_P D cls [(mb, .inl (T 0, 1920, .inl fb)), (ml, .inl (T 0, 6, .inl fl)), (mm, .inl (T 0, 600, .inl fm)), (mk, .inl (T 0, 320, .inl fk)), (m0, .inr (3, [.ref mb, .ref ml, .ref mm, .int (nI many), .int (nI 1), .ref mk]))] H := hP
  have hD : va_D A [(mb, .inl (T 0, 1920, .inl fb)), (ml, .inl (T 0, 6, .inl fl)), (mm, .inl (T 0, 600, .inl fm)), (mk, .inl (T 0, 320, .inl fk)), (m0, .inr (3, [.ref mb, .ref ml, .ref mm, .int (nI many), .int (nI 1), .ref mk]))] := hD
  refine W.eq (g2 := F0 m 17 ls [.int (nI 1)]) rfl ?_
  refine ln_if_eq_f (tgt := 24) hx hb (by omega) (by decide) dX6_length_17 (by decide) ?_
  refine lv_iconst (v := (nI 0)) hx hb dX6_length_20 (by decide +kernel) ?_
  refine lv_goto (tgt := 30) hx hb dX6_length_21 (by decide) ?_
  have hP9 := hP.sub (ws' := [(m0, .inr (3, [.ref mb, .ref ml, .ref mm, .int (nI many), .int (nI 1), .ref mk])), (mb, .inl (T 0, 1920, .inl fb)), (ml, .inl (T 0, 6, .inl fl)), (mm, .inl (T 0, 600, .inl fm)), (mk, .inl (T 0, 320, .inl fk))]) [4, 0, 1, 2, 3] rfl
  have hD9 := hD.sub (ws' := [(m0, .inr (3, [.ref mb, .ref ml, .ref mm, .int (nI many), .int (nI 1), .ref mk])), (mb, .inl (T 0, 1920, .inl fb)), (ml, .inl (T 0, 6, .inl fl)), (mm, .inl (T 0, 600, .inl fm)), (mk, .inl (T 0, 320, .inl fk))]) [4, 0, 1, 2, 3] (by decide) rfl
  exact W.iret (v := (nI 0)) hx hb hr (fun t ht hW => ⟨⟨(many, (nI 1), fb, fl, fm, fk), rfl, show (nI 1) = nI 1 ∧ MR fl fb (N) (Bw) from ⟨rfl, hMR⟩, (by rw [ht]; exact hP9), va_K.moved hW.alike hK, hD9⟩, hS.F ht⟩) hS.2.2 dX6_length_30
set_option maxHeartbeats 4000000 in
set_option maxRecDepth 100000 in
theorem m_length (l : Launch) (D : va_G) (T : Nat → ClassId) (g : Nat → Nat) (sz : Nat) (m0 : Nat) (mb : Nat) (ml : Nat) (mm : Nat) (mk : Nat) (many : Nat) (th : Int32) (fb : Nat → Int32) (fl : Nat → Int32) (fm : Nat → Int32) (fk : Nat → Int32) (N : Nat → Nat) (Bw : Nat → Nat → Nat) (hMR : MR fl fb N Bw) (i : Nat) (hi : i < 6) : MU l yX6_length wsX6_length ({ frames := 60, cells := 0, slots := 0, locals := 3000 } : Room) D T g [.ref m0, .int (nI i)] [(m0, .inr (3, [.ref mb, .ref ml, .ref mm, .int (nI many), .int th, .ref mk])), (mb, .inl (T 0, 1920, .inl fb)), (ml, .inl (T 0, 6, .inl fl)), (mm, .inl (T 0, 600, .inl fm)), (mk, .inl (T 0, 320, .inl fk))] sz (fun u : Nat × Int32 × (Nat → Int32) × (Nat → Int32) × (Nat → Int32) × (Nat → Int32) => some (.int (nI (N i)))) (fun u : Nat × Int32 × (Nat → Int32) × (Nat → Int32) × (Nat → Int32) × (Nat → Int32) => u.2.1 = nI 0 ∧ MR u.2.2.2.1 u.2.2.1 (N) (Bw)) (fun u : Nat × Int32 × (Nat → Int32) × (Nat → Int32) × (Nat → Int32) × (Nat → Int32) => [(m0, .inr (3, [.ref mb, .ref ml, .ref mm, .int (nI u.1), .int u.2.1, .ref mk])), (mb, .inl (T 0, 1920, .inl u.2.2.1)), (ml, .inl (T 0, 6, .inl u.2.2.2.1)), (mm, .inl (T 0, 600, .inl u.2.2.2.2.1)), (mk, .inl (T 0, 320, .inl u.2.2.2.2.2))]) 0 0 := by
  refine Met.ofW (cc := cX6_length) (maxL := 2) (ret := (some .int)) (by decide) rfl ?_
  intro p e s m args below meth c s₁ B hml hv
  obtain ⟨rfl, hsz, hP, hK, hD0, hG⟩ := hv
  have hx := B.exec
  have hb := B.bytes
  have hr := B.returns
  have hts := atoms_spec (ws := wsX6_length) B.pre
  have hown : s.vm.findClass RX6 = some m.cls := findClass_of_methodNamed B.named
  have hlocks := B.notSynchronized
  have hi_X6 : ∀ w ∈ wsX60, w ∈ wsX6_length := by decide +kernel
  subst hsz
  have hD := hD0.self (sz := s.heap.size)
  generalize hAe : va_A [(m0, .inr (3, [.ref mb, .ref ml, .ref mm, .int (nI many), .int th, .ref mk])), (mb, .inl (T 0, 1920, .inl fb)), (ml, .inl (T 0, 6, .inl fl)), (mm, .inl (T 0, 600, .inl fm)), (mk, .inl (T 0, 320, .inl fk))] s.heap.size = A at hD hG ⊢
  have hA : ∀ q : Nat, s.heap.size ≤ q → A q := fun q h => by rw [← hAe]; exact Or.inr h
  have hS : va_S A s.heap s.heap [] := va_S.rf
  have hP : va_P D cls [(m0, .inr (3, [.ref mb, .ref ml, .ref mm, .int (nI many), .int th, .ref mk])), (mb, .inl (T 0, 1920, .inl fb)), (ml, .inl (T 0, 6, .inl fl)), (mm, .inl (T 0, 600, .inl fm)), (mk, .inl (T 0, 320, .inl fk))] s.heap := hP
  have hl := lv_entry ([.ref m0, .int (nI i)]) (n := 2) (Nat.le_of_ble_eq_true rfl)
  rw [lg_entry_eq]
  generalize (lg_sl ([.ref m0, .int (nI i)]) ++ List.replicate (2 - (lg_sl ([.ref m0, .int (nI i)])).length) Slot.unset).toArray = ls at hl ⊢
  have hl : lv_has ls 2 [(0, .ref m0), (1, .int (nI i))] := hl
  have hrow := hMR i hi
  have hn := hrow.2.1
  refine lv_aload_n hx hb dX6_length_0 rfl (lv_at hl 0 rfl) ?_
  refine lv_aload_n hx hb dX6_length_1 rfl (lv_at hl 0 rfl) ?_
  refine lv_iload_n hx hb dX6_length_2 rfl (lv_at hl 1 rfl) ?_
  refine ro_V (As := [.int (nI i)]) (rest := [.ref m0]) (wc := []) (r := .int (nI 1)) ⟨hx, hb, hml, hown, hts⟩ (c_X6_isRow_y l D T g m0 i (by omega)) (cwV 1 hts gX6_length_X6_isRow rfl rfl rfl (by decide +kernel) ⟨Nat.le_of_ble_eq_true rfl, Nat.le_of_ble_eq_true rfl⟩) (va_recv hK hP (ci := 3) (q0 := 0) rfl rfl) hP hK hG hS [] rfl ⟨Nat.zero_le _, Nat.zero_le _⟩ rfl hl.1 (Nat.le_of_ble_eq_true rfl) dX6_length_3 rfl ?_
  refine ln_if_eq_f (tgt := 13) hx hb (by omega) (by decide) dX6_length_6 (by decide) ?_
  refine lv_iconst (v := (nI 0)) hx hb dX6_length_9 (by decide +kernel) ?_
  refine lv_goto (tgt := 14) hx hb dX6_length_10 (by decide) ?_
  refine mu_V (As := [.int (nI 0)]) (rest := []) (wc := [(m0, .inr (3, [.ref mb, .ref ml, .ref mm, .int (nI many), .int th, .ref mk]))]) (wr := [(mb, .inl (T 0, 1920, .inl fb)), (ml, .inl (T 0, 6, .inl fl)), (mm, .inl (T 0, 600, .inl fm)), (mk, .inl (T 0, 320, .inl fk))]) ⟨hx, hb, hml, hown, hts⟩ (c_X6_isWrong_0 l D T g s.heap.size m0 mb ml mm mk many th) (cwV 1 hts gX6_length_X6_isWrong rfl rfl rfl (by decide +kernel) ⟨Nat.le_of_ble_eq_true rfl, Nat.le_of_ble_eq_true rfl⟩) (va_recv hK hP (ci := 3) (q0 := 0) rfl rfl) hP hD hK hG hS hA [0] [1, 2, 3, 4] rfl (by decide) rfl (by decide) (by decide) ⟨Nat.le_of_ble_eq_true rfl, Nat.le_of_ble_eq_true rfl⟩ rfl hl.1 (Nat.le_of_ble_eq_true rfl) dX6_length_14 rfl (fun u H locs hq1 hP hD hS => ?_)
  have hP : va_P D cls [(mb, .inl (T 0, 1920, .inl fb)), (ml, .inl (T 0, 6, .inl fl)), (mm, .inl (T 0, 600, .inl fm)), (mk, .inl (T 0, 320, .inl fk)), (m0, .inr (3, [.ref mb, .ref ml, .ref mm, .int (nI many), .int (nI 0), .ref mk]))] H := hP
  have hD : va_D A [(mb, .inl (T 0, 1920, .inl fb)), (ml, .inl (T 0, 6, .inl fl)), (mm, .inl (T 0, 600, .inl fm)), (mk, .inl (T 0, 320, .inl fk)), (m0, .inr (3, [.ref mb, .ref ml, .ref mm, .int (nI many), .int (nI 0), .ref mk]))] := hD
  refine W.eq (g2 := F0 m 17 ls [.int (nI 0)]) rfl ?_
  refine ln_if_eq_t (tgt := 24) hx hb (by omega) (by decide) dX6_length_17 (by decide) ?_
  refine lv_aload_n hx hb dX6_length_24 rfl (lv_at hl 0 rfl) ?_
  refine va_get (D := D) (ci := 3) (v := .ref ml) (C := RX6) (T := TX6) (N := 6) hx hb hts hi_X6 hown hK hP 4 rfl rfl 1 (by decide) (hts _ (List.mem_of_getElem? (i := 1) rfl)) (fun _ h9 => h9) rfl dX6_length_25 ?_
  refine lv_iload_n hx hb dX6_length_28 rfl (lv_at hl 1 rfl) ?_
  refine ln_iald hx hb hK hP 1 0 rfl rfl ⟨by omega, by omega⟩ dX6_length_29 ?_
  rw [show fl i = nI (N i) from hrow.1]
  have hP9 := hP.sub (ws' := [(m0, .inr (3, [.ref mb, .ref ml, .ref mm, .int (nI many), .int (nI 0), .ref mk])), (mb, .inl (T 0, 1920, .inl fb)), (ml, .inl (T 0, 6, .inl fl)), (mm, .inl (T 0, 600, .inl fm)), (mk, .inl (T 0, 320, .inl fk))]) [4, 0, 1, 2, 3] rfl
  have hD9 := hD.sub (ws' := [(m0, .inr (3, [.ref mb, .ref ml, .ref mm, .int (nI many), .int (nI 0), .ref mk])), (mb, .inl (T 0, 1920, .inl fb)), (ml, .inl (T 0, 6, .inl fl)), (mm, .inl (T 0, 600, .inl fm)), (mk, .inl (T 0, 320, .inl fk))]) [4, 0, 1, 2, 3] (by decide) rfl
  exact W.iret (v := (nI (N i))) hx hb hr (fun t ht hW => ⟨⟨(many, (nI 0), fb, fl, fm, fk), rfl, show (nI 0) = nI 0 ∧ MR fl fb (N) (Bw) from ⟨rfl, hMR⟩, (by rw [ht]; exact hP9), va_K.moved hW.alike hK, hD9⟩, hS.F ht⟩) hS.2.2 dX6_length_30
set_option maxHeartbeats 4000000 in
set_option maxRecDepth 100000 in
theorem m_insert_1 (l : Launch) (D : va_G) (T : Nat → ClassId) (g : Nat → Nat) (sz : Nat) (m0 : Nat) (mb : Nat) (ml : Nat) (mm : Nat) (mk : Nat) (many : Nat) (th : Int32) (fb : Nat → Int32) (fl : Nat → Int32) (fm : Nat → Int32) (fk : Nat → Int32) (N : Nat → Nat) (Bw : Nat → Nat → Nat) (hMR : MR fl fb N Bw) (i : Int32) (hi : i < 0 ∨ nI 5 < i) (x0 : Int32) (x1 : Int32) : MU l yX6_insert wsX6_insert ({ frames := 60, cells := 0, slots := 0, locals := 3000 } : Room) D T g [.ref m0, .int i, .int x0, .int x1] [(m0, .inr (3, [.ref mb, .ref ml, .ref mm, .int (nI many), .int th, .ref mk])), (mb, .inl (T 0, 1920, .inl fb)), (ml, .inl (T 0, 6, .inl fl)), (mm, .inl (T 0, 600, .inl fm)), (mk, .inl (T 0, 320, .inl fk))] sz (fun u : Nat × Int32 × (Nat → Int32) × (Nat → Int32) × (Nat → Int32) × (Nat → Int32) => some (.int (nI 0))) (fun u : Nat × Int32 × (Nat → Int32) × (Nat → Int32) × (Nat → Int32) × (Nat → Int32) => u.2.1 = nI 1 ∧ MR u.2.2.2.1 u.2.2.1 (N) (Bw)) (fun u : Nat × Int32 × (Nat → Int32) × (Nat → Int32) × (Nat → Int32) × (Nat → Int32) => [(m0, .inr (3, [.ref mb, .ref ml, .ref mm, .int (nI u.1), .int u.2.1, .ref mk])), (mb, .inl (T 0, 1920, .inl u.2.2.1)), (ml, .inl (T 0, 6, .inl u.2.2.2.1)), (mm, .inl (T 0, 600, .inl u.2.2.2.2.1)), (mk, .inl (T 0, 320, .inl u.2.2.2.2.2))]) 0 0 := by
  refine Met.ofW (cc := cX6_insert) (maxL := 5) (ret := (some .int)) (by decide) rfl ?_
  intro p e s m args below meth c s₁ B hml hv
  obtain ⟨rfl, hsz, hP, hK, hD0, hG⟩ := hv
  have hx := B.exec
  have hb := B.bytes
  have hr := B.returns
  have hts := atoms_spec (ws := wsX6_insert) B.pre
  have hown : s.vm.findClass RX6 = some m.cls := findClass_of_methodNamed B.named
  have hlocks := B.notSynchronized
  subst hsz
  have hD := hD0.self (sz := s.heap.size)
  generalize hAe : va_A [(m0, .inr (3, [.ref mb, .ref ml, .ref mm, .int (nI many), .int th, .ref mk])), (mb, .inl (T 0, 1920, .inl fb)), (ml, .inl (T 0, 6, .inl fl)), (mm, .inl (T 0, 600, .inl fm)), (mk, .inl (T 0, 320, .inl fk))] s.heap.size = A at hD hG ⊢
  have hA : ∀ q : Nat, s.heap.size ≤ q → A q := fun q h => by rw [← hAe]; exact Or.inr h
  have hS : va_S A s.heap s.heap [] := va_S.rf
  have hP : va_P D cls [(m0, .inr (3, [.ref mb, .ref ml, .ref mm, .int (nI many), .int th, .ref mk])), (mb, .inl (T 0, 1920, .inl fb)), (ml, .inl (T 0, 6, .inl fl)), (mm, .inl (T 0, 600, .inl fm)), (mk, .inl (T 0, 320, .inl fk))] s.heap := hP
  have hl := lv_entry ([.ref m0, .int i, .int x0, .int x1]) (n := 5) (Nat.le_of_ble_eq_true rfl)
  rw [lg_entry_eq]
  generalize (lg_sl ([.ref m0, .int i, .int x0, .int x1]) ++ List.replicate (5 - (lg_sl ([.ref m0, .int i, .int x0, .int x1])).length) Slot.unset).toArray = ls at hl ⊢
  have hl : lv_has ls 5 [(0, .ref m0), (1, .int i), (2, .int x0), (3, .int x1)] := hl
  refine lv_aload_n hx hb dX6_insert_0 rfl (lv_at hl 0 rfl) ?_
  refine lv_aload_n hx hb dX6_insert_1 rfl (lv_at hl 0 rfl) ?_
  refine lv_iload_n hx hb dX6_insert_2 rfl (lv_at hl 1 rfl) ?_
  refine ro_V (As := [.int i]) (rest := [.ref m0]) (wc := []) (r := .int (nI 0)) ⟨hx, hb, hml, hown, hts⟩ (c_X6_isRow_n l D T g m0 i hi) (cwV 1 hts gX6_insert_X6_isRow rfl rfl rfl (by decide +kernel) ⟨Nat.le_of_ble_eq_true rfl, Nat.le_of_ble_eq_true rfl⟩) (va_recv hK hP (ci := 3) (q0 := 0) rfl rfl) hP hK hG hS [] rfl ⟨Nat.zero_le _, Nat.zero_le _⟩ rfl hl.1 (Nat.le_of_ble_eq_true rfl) dX6_insert_3 rfl ?_
  refine ln_if_eq_t (tgt := 23) hx hb (by omega) (by decide) dX6_insert_6 (by decide) ?_
  refine lv_iconst (v := (nI 1)) hx hb dX6_insert_23 (by decide +kernel) ?_
  refine lv_goto (tgt := 56) hx hb dX6_insert_24 (by decide) ?_
  refine mu_V (As := [.int (nI 1)]) (rest := []) (wc := [(m0, .inr (3, [.ref mb, .ref ml, .ref mm, .int (nI many), .int th, .ref mk]))]) (wr := [(mb, .inl (T 0, 1920, .inl fb)), (ml, .inl (T 0, 6, .inl fl)), (mm, .inl (T 0, 600, .inl fm)), (mk, .inl (T 0, 320, .inl fk))]) ⟨hx, hb, hml, hown, hts⟩ (c_X6_isWrong_p l D T g s.heap.size m0 mb ml mm mk many th 1 (by omega)) (cwV 1 hts gX6_insert_X6_isWrong rfl rfl rfl (by decide +kernel) ⟨Nat.le_of_ble_eq_true rfl, Nat.le_of_ble_eq_true rfl⟩) (va_recv hK hP (ci := 3) (q0 := 0) rfl rfl) hP hD hK hG hS hA [0] [1, 2, 3, 4] rfl (by decide) rfl (by decide) (by decide) ⟨Nat.le_of_ble_eq_true rfl, Nat.le_of_ble_eq_true rfl⟩ rfl hl.1 (Nat.le_of_ble_eq_true rfl) dX6_insert_56 rfl (fun u H locs hq1 hP hD hS => ?_)
  have hP : va_P D cls [(mb, .inl (T 0, 1920, .inl fb)), (ml, .inl (T 0, 6, .inl fl)), (mm, .inl (T 0, 600, .inl fm)), (mk, .inl (T 0, 320, .inl fk)), (m0, .inr (3, [.ref mb, .ref ml, .ref mm, .int (nI many), .int (nI 1), .ref mk]))] H := hP
  have hD : va_D A [(mb, .inl (T 0, 1920, .inl fb)), (ml, .inl (T 0, 6, .inl fl)), (mm, .inl (T 0, 600, .inl fm)), (mk, .inl (T 0, 320, .inl fk)), (m0, .inr (3, [.ref mb, .ref ml, .ref mm, .int (nI many), .int (nI 1), .ref mk]))] := hD
  refine W.eq (g2 := F0 m 59 ls [.int (nI 1)]) rfl ?_
  refine ln_if_eq_f (tgt := 64) hx hb (by omega) (by decide) dX6_insert_59 (by decide) ?_
  refine lv_iconst (v := (nI 0)) hx hb dX6_insert_62 (by decide +kernel) ?_
  have hP9 := hP.sub (ws' := [(m0, .inr (3, [.ref mb, .ref ml, .ref mm, .int (nI many), .int (nI 1), .ref mk])), (mb, .inl (T 0, 1920, .inl fb)), (ml, .inl (T 0, 6, .inl fl)), (mm, .inl (T 0, 600, .inl fm)), (mk, .inl (T 0, 320, .inl fk))]) [4, 0, 1, 2, 3] rfl
  have hD9 := hD.sub (ws' := [(m0, .inr (3, [.ref mb, .ref ml, .ref mm, .int (nI many), .int (nI 1), .ref mk])), (mb, .inl (T 0, 1920, .inl fb)), (ml, .inl (T 0, 6, .inl fl)), (mm, .inl (T 0, 600, .inl fm)), (mk, .inl (T 0, 320, .inl fk))]) [4, 0, 1, 2, 3] (by decide) rfl
  exact W.iret (v := (nI 0)) hx hb hr (fun t ht hW => ⟨⟨(many, (nI 1), fb, fl, fm, fk), rfl, show (nI 1) = nI 1 ∧ MR fl fb (N) (Bw) from ⟨rfl, hMR⟩, (by rw [ht]; exact hP9), va_K.moved hW.alike hK, hD9⟩, hS.F ht⟩) hS.2.2 dX6_insert_63
set_option maxHeartbeats 4000000 in
set_option maxRecDepth 100000 in
theorem m_insert_2 (l : Launch) (D : va_G) (T : Nat → ClassId) (g : Nat → Nat) (sz : Nat) (m0 : Nat) (mb : Nat) (ml : Nat) (mm : Nat) (mk : Nat) (many : Nat) (th : Int32) (fb : Nat → Int32) (fl : Nat → Int32) (fm : Nat → Int32) (fk : Nat → Int32) (N : Nat → Nat) (Bw : Nat → Nat → Nat) (hMR : MR fl fb N Bw) (i : Nat) (hi : i < 6) (w7 : Int32) (hp : w7 < 0 ∨ nI (N i) < w7) (x0 : Int32) : MU l yX6_insert wsX6_insert ({ frames := 60, cells := 0, slots := 0, locals := 3000 } : Room) D T g [.ref m0, .int (nI i), .int w7, .int x0] [(m0, .inr (3, [.ref mb, .ref ml, .ref mm, .int (nI many), .int th, .ref mk])), (mb, .inl (T 0, 1920, .inl fb)), (ml, .inl (T 0, 6, .inl fl)), (mm, .inl (T 0, 600, .inl fm)), (mk, .inl (T 0, 320, .inl fk))] sz (fun u : Nat × Int32 × (Nat → Int32) × (Nat → Int32) × (Nat → Int32) × (Nat → Int32) => some (.int (nI 0))) (fun u : Nat × Int32 × (Nat → Int32) × (Nat → Int32) × (Nat → Int32) × (Nat → Int32) => u.2.1 = nI 1 ∧ MR u.2.2.2.1 u.2.2.1 (N) (Bw)) (fun u : Nat × Int32 × (Nat → Int32) × (Nat → Int32) × (Nat → Int32) × (Nat → Int32) => [(m0, .inr (3, [.ref mb, .ref ml, .ref mm, .int (nI u.1), .int u.2.1, .ref mk])), (mb, .inl (T 0, 1920, .inl u.2.2.1)), (ml, .inl (T 0, 6, .inl u.2.2.2.1)), (mm, .inl (T 0, 600, .inl u.2.2.2.2.1)), (mk, .inl (T 0, 320, .inl u.2.2.2.2.2))]) 0 0 := by
  refine Met.ofW (cc := cX6_insert) (maxL := 5) (ret := (some .int)) (by decide) rfl ?_
  intro p e s m args below meth c s₁ B hml hv
  obtain ⟨rfl, hsz, hP, hK, hD0, hG⟩ := hv
  have hx := B.exec
  have hb := B.bytes
  have hr := B.returns
  have hts := atoms_spec (ws := wsX6_insert) B.pre
  have hown : s.vm.findClass RX6 = some m.cls := findClass_of_methodNamed B.named
  have hlocks := B.notSynchronized
  have hi_X6 : ∀ w ∈ wsX60, w ∈ wsX6_insert := by decide +kernel
  subst hsz
  have hD := hD0.self (sz := s.heap.size)
  generalize hAe : va_A [(m0, .inr (3, [.ref mb, .ref ml, .ref mm, .int (nI many), .int th, .ref mk])), (mb, .inl (T 0, 1920, .inl fb)), (ml, .inl (T 0, 6, .inl fl)), (mm, .inl (T 0, 600, .inl fm)), (mk, .inl (T 0, 320, .inl fk))] s.heap.size = A at hD hG ⊢
  have hA : ∀ q : Nat, s.heap.size ≤ q → A q := fun q h => by rw [← hAe]; exact Or.inr h
  have hS : va_S A s.heap s.heap [] := va_S.rf
  have hP : va_P D cls [(m0, .inr (3, [.ref mb, .ref ml, .ref mm, .int (nI many), .int th, .ref mk])), (mb, .inl (T 0, 1920, .inl fb)), (ml, .inl (T 0, 6, .inl fl)), (mm, .inl (T 0, 600, .inl fm)), (mk, .inl (T 0, 320, .inl fk))] s.heap := hP
  have hl := lv_entry ([.ref m0, .int (nI i), .int w7, .int x0]) (n := 5) (Nat.le_of_ble_eq_true rfl)
  rw [lg_entry_eq]
  generalize (lg_sl ([.ref m0, .int (nI i), .int w7, .int x0]) ++ List.replicate (5 - (lg_sl ([.ref m0, .int (nI i), .int w7, .int x0])).length) Slot.unset).toArray = ls at hl ⊢
  have hl : lv_has ls 5 [(0, .ref m0), (1, .int (nI i)), (2, .int w7), (3, .int x0)] := hl
  have hrow := hMR i hi
  have hn := hrow.2.1
  refine lv_aload_n hx hb dX6_insert_0 rfl (lv_at hl 0 rfl) ?_
  refine lv_aload_n hx hb dX6_insert_1 rfl (lv_at hl 0 rfl) ?_
  refine lv_iload_n hx hb dX6_insert_2 rfl (lv_at hl 1 rfl) ?_
  refine ro_V (As := [.int (nI i)]) (rest := [.ref m0]) (wc := []) (r := .int (nI 1)) ⟨hx, hb, hml, hown, hts⟩ (c_X6_isRow_y l D T g m0 i (by omega)) (cwV 1 hts gX6_insert_X6_isRow rfl rfl rfl (by decide +kernel) ⟨Nat.le_of_ble_eq_true rfl, Nat.le_of_ble_eq_true rfl⟩) (va_recv hK hP (ci := 3) (q0 := 0) rfl rfl) hP hK hG hS [] rfl ⟨Nat.zero_le _, Nat.zero_le _⟩ rfl hl.1 (Nat.le_of_ble_eq_true rfl) dX6_insert_3 rfl ?_
  refine ln_if_eq_f (tgt := 23) hx hb (by omega) (by decide) dX6_insert_6 (by decide) ?_
  refine lv_iload_n hx hb dX6_insert_9 rfl (lv_at hl 2 rfl) ?_
  refine lv_if_lt (tgt := 23) hx hb dX6_insert_10 (by decide) (fun c_10 => ?_) (fun c_10 => ?_)
  · refine lv_iconst (v := (nI 1)) hx hb dX6_insert_23 (by decide +kernel) ?_
    refine lv_goto (tgt := 56) hx hb dX6_insert_24 (by decide) ?_
    refine mu_V (As := [.int (nI 1)]) (rest := []) (wc := [(m0, .inr (3, [.ref mb, .ref ml, .ref mm, .int (nI many), .int th, .ref mk]))]) (wr := [(mb, .inl (T 0, 1920, .inl fb)), (ml, .inl (T 0, 6, .inl fl)), (mm, .inl (T 0, 600, .inl fm)), (mk, .inl (T 0, 320, .inl fk))]) ⟨hx, hb, hml, hown, hts⟩ (c_X6_isWrong_p l D T g s.heap.size m0 mb ml mm mk many th 1 (by omega)) (cwV 1 hts gX6_insert_X6_isWrong rfl rfl rfl (by decide +kernel) ⟨Nat.le_of_ble_eq_true rfl, Nat.le_of_ble_eq_true rfl⟩) (va_recv hK hP (ci := 3) (q0 := 0) rfl rfl) hP hD hK hG hS hA [0] [1, 2, 3, 4] rfl (by decide) rfl (by decide) (by decide) ⟨Nat.le_of_ble_eq_true rfl, Nat.le_of_ble_eq_true rfl⟩ rfl hl.1 (Nat.le_of_ble_eq_true rfl) dX6_insert_56 rfl (fun u H locs hq1 hP hD hS => ?_)
    have hP : va_P D cls [(mb, .inl (T 0, 1920, .inl fb)), (ml, .inl (T 0, 6, .inl fl)), (mm, .inl (T 0, 600, .inl fm)), (mk, .inl (T 0, 320, .inl fk)), (m0, .inr (3, [.ref mb, .ref ml, .ref mm, .int (nI many), .int (nI 1), .ref mk]))] H := hP
    have hD : va_D A [(mb, .inl (T 0, 1920, .inl fb)), (ml, .inl (T 0, 6, .inl fl)), (mm, .inl (T 0, 600, .inl fm)), (mk, .inl (T 0, 320, .inl fk)), (m0, .inr (3, [.ref mb, .ref ml, .ref mm, .int (nI many), .int (nI 1), .ref mk]))] := hD
    refine W.eq (g2 := F0 m 59 ls [.int (nI 1)]) rfl ?_
    refine ln_if_eq_f (tgt := 64) hx hb (by omega) (by decide) dX6_insert_59 (by decide) ?_
    refine lv_iconst (v := (nI 0)) hx hb dX6_insert_62 (by decide +kernel) ?_
    have hP9 := hP.sub (ws' := [(m0, .inr (3, [.ref mb, .ref ml, .ref mm, .int (nI many), .int (nI 1), .ref mk])), (mb, .inl (T 0, 1920, .inl fb)), (ml, .inl (T 0, 6, .inl fl)), (mm, .inl (T 0, 600, .inl fm)), (mk, .inl (T 0, 320, .inl fk))]) [4, 0, 1, 2, 3] rfl
    have hD9 := hD.sub (ws' := [(m0, .inr (3, [.ref mb, .ref ml, .ref mm, .int (nI many), .int (nI 1), .ref mk])), (mb, .inl (T 0, 1920, .inl fb)), (ml, .inl (T 0, 6, .inl fl)), (mm, .inl (T 0, 600, .inl fm)), (mk, .inl (T 0, 320, .inl fk))]) [4, 0, 1, 2, 3] (by decide) rfl
    exact W.iret (v := (nI 0)) hx hb hr (fun t ht hW => ⟨⟨(many, (nI 1), fb, fl, fm, fk), rfl, show (nI 1) = nI 1 ∧ MR fl fb (N) (Bw) from ⟨rfl, hMR⟩, (by rw [ht]; exact hP9), va_K.moved hW.alike hK, hD9⟩, hS.F ht⟩) hS.2.2 dX6_insert_63
  · refine lv_iload_n hx hb dX6_insert_13 rfl (lv_at hl 2 rfl) ?_
    refine lv_aload_n hx hb dX6_insert_14 rfl (lv_at hl 0 rfl) ?_
    refine va_get (D := D) (ci := 3) (v := .ref ml) (C := RX6) (T := TX6) (N := 6) hx hb hts hi_X6 hown hK hP 0 rfl rfl 1 (by decide) (hts _ (List.mem_of_getElem? (i := 1) rfl)) (fun _ h9 => h9) rfl dX6_insert_15 ?_
    refine lv_iload_n hx hb dX6_insert_18 rfl (lv_at hl 1 rfl) ?_
    refine ln_iald hx hb hK hP 2 0 rfl rfl ⟨by omega, by omega⟩ dX6_insert_19 ?_
    rw [show fl i = nI (N i) from hrow.1]
    refine lv_icmp_le (tgt := 27) hx hb dX6_insert_20 (by decide) (fun q9 => absurd q9 (Int32.not_le.mpr (hp.elim (fun z => absurd z c_10) id))) (fun _ => ?_)
    refine lv_iconst (v := (nI 1)) hx hb dX6_insert_23 (by decide +kernel) ?_
    refine lv_goto (tgt := 56) hx hb dX6_insert_24 (by decide) ?_
    refine mu_V (As := [.int (nI 1)]) (rest := []) (wc := [(m0, .inr (3, [.ref mb, .ref ml, .ref mm, .int (nI many), .int th, .ref mk]))]) (wr := [(mb, .inl (T 0, 1920, .inl fb)), (ml, .inl (T 0, 6, .inl fl)), (mm, .inl (T 0, 600, .inl fm)), (mk, .inl (T 0, 320, .inl fk))]) ⟨hx, hb, hml, hown, hts⟩ (c_X6_isWrong_p l D T g s.heap.size m0 mb ml mm mk many th 1 (by omega)) (cwV 1 hts gX6_insert_X6_isWrong rfl rfl rfl (by decide +kernel) ⟨Nat.le_of_ble_eq_true rfl, Nat.le_of_ble_eq_true rfl⟩) (va_recv hK hP (ci := 3) (q0 := 0) rfl rfl) hP hD hK hG hS hA [0] [1, 2, 3, 4] rfl (by decide) rfl (by decide) (by decide) ⟨Nat.le_of_ble_eq_true rfl, Nat.le_of_ble_eq_true rfl⟩ rfl hl.1 (Nat.le_of_ble_eq_true rfl) dX6_insert_56 rfl (fun u H locs hq2 hP hD hS => ?_)
    have hP : va_P D cls [(mb, .inl (T 0, 1920, .inl fb)), (ml, .inl (T 0, 6, .inl fl)), (mm, .inl (T 0, 600, .inl fm)), (mk, .inl (T 0, 320, .inl fk)), (m0, .inr (3, [.ref mb, .ref ml, .ref mm, .int (nI many), .int (nI 1), .ref mk]))] H := hP
    have hD : va_D A [(mb, .inl (T 0, 1920, .inl fb)), (ml, .inl (T 0, 6, .inl fl)), (mm, .inl (T 0, 600, .inl fm)), (mk, .inl (T 0, 320, .inl fk)), (m0, .inr (3, [.ref mb, .ref ml, .ref mm, .int (nI many), .int (nI 1), .ref mk]))] := hD
    refine W.eq (g2 := F0 m 59 ls [.int (nI 1)]) rfl ?_
    refine ln_if_eq_f (tgt := 64) hx hb (by omega) (by decide) dX6_insert_59 (by decide) ?_
    refine lv_iconst (v := (nI 0)) hx hb dX6_insert_62 (by decide +kernel) ?_
    have hP9 := hP.sub (ws' := [(m0, .inr (3, [.ref mb, .ref ml, .ref mm, .int (nI many), .int (nI 1), .ref mk])), (mb, .inl (T 0, 1920, .inl fb)), (ml, .inl (T 0, 6, .inl fl)), (mm, .inl (T 0, 600, .inl fm)), (mk, .inl (T 0, 320, .inl fk))]) [4, 0, 1, 2, 3] rfl
    have hD9 := hD.sub (ws' := [(m0, .inr (3, [.ref mb, .ref ml, .ref mm, .int (nI many), .int (nI 1), .ref mk])), (mb, .inl (T 0, 1920, .inl fb)), (ml, .inl (T 0, 6, .inl fl)), (mm, .inl (T 0, 600, .inl fm)), (mk, .inl (T 0, 320, .inl fk))]) [4, 0, 1, 2, 3] (by decide) rfl
    exact W.iret (v := (nI 0)) hx hb hr (fun t ht hW => ⟨⟨(many, (nI 1), fb, fl, fm, fk), rfl, show (nI 1) = nI 1 ∧ MR fl fb (N) (Bw) from ⟨rfl, hMR⟩, (by rw [ht]; exact hP9), va_K.moved hW.alike hK, hD9⟩, hS.F ht⟩) hS.2.2 dX6_insert_63
set_option maxHeartbeats 4000000 in
set_option maxRecDepth 100000 in
theorem m_insert_3 (l : Launch) (D : va_G) (T : Nat → ClassId) (g : Nat → Nat) (sz : Nat) (m0 : Nat) (mb : Nat) (ml : Nat) (mm : Nat) (mk : Nat) (many : Nat) (th : Int32) (fb : Nat → Int32) (fl : Nat → Int32) (fm : Nat → Int32) (fk : Nat → Int32) (N : Nat → Nat) (Bw : Nat → Nat → Nat) (hMR : MR fl fb N Bw) (i : Nat) (hi : i < 6) (w7 : Nat) (hp : w7 ≤ N i) (v : Int32) (hv : v < 0 ∨ nI 255 < v) : MU l yX6_insert wsX6_insert ({ frames := 60, cells := 0, slots := 0, locals := 3000 } : Room) D T g [.ref m0, .int (nI i), .int (nI w7), .int v] [(m0, .inr (3, [.ref mb, .ref ml, .ref mm, .int (nI many), .int th, .ref mk])), (mb, .inl (T 0, 1920, .inl fb)), (ml, .inl (T 0, 6, .inl fl)), (mm, .inl (T 0, 600, .inl fm)), (mk, .inl (T 0, 320, .inl fk))] sz (fun u : Nat × Int32 × (Nat → Int32) × (Nat → Int32) × (Nat → Int32) × (Nat → Int32) => some (.int (nI 0))) (fun u : Nat × Int32 × (Nat → Int32) × (Nat → Int32) × (Nat → Int32) × (Nat → Int32) => u.2.1 = nI 2 ∧ MR u.2.2.2.1 u.2.2.1 (N) (Bw)) (fun u : Nat × Int32 × (Nat → Int32) × (Nat → Int32) × (Nat → Int32) × (Nat → Int32) => [(m0, .inr (3, [.ref mb, .ref ml, .ref mm, .int (nI u.1), .int u.2.1, .ref mk])), (mb, .inl (T 0, 1920, .inl u.2.2.1)), (ml, .inl (T 0, 6, .inl u.2.2.2.1)), (mm, .inl (T 0, 600, .inl u.2.2.2.2.1)), (mk, .inl (T 0, 320, .inl u.2.2.2.2.2))]) 0 0 := by
  refine Met.ofW (cc := cX6_insert) (maxL := 5) (ret := (some .int)) (by decide) rfl ?_
  intro p e s m args below meth c s₁ B hml hv
  obtain ⟨rfl, hsz, hP, hK, hD0, hG⟩ := hv
  have hx := B.exec
  have hb := B.bytes
  have hr := B.returns
  have hts := atoms_spec (ws := wsX6_insert) B.pre
  have hown : s.vm.findClass RX6 = some m.cls := findClass_of_methodNamed B.named
  have hlocks := B.notSynchronized
  have hi_X6 : ∀ w ∈ wsX60, w ∈ wsX6_insert := by decide +kernel
  subst hsz
  have hD := hD0.self (sz := s.heap.size)
  generalize hAe : va_A [(m0, .inr (3, [.ref mb, .ref ml, .ref mm, .int (nI many), .int th, .ref mk])), (mb, .inl (T 0, 1920, .inl fb)), (ml, .inl (T 0, 6, .inl fl)), (mm, .inl (T 0, 600, .inl fm)), (mk, .inl (T 0, 320, .inl fk))] s.heap.size = A at hD hG ⊢
  have hA : ∀ q : Nat, s.heap.size ≤ q → A q := fun q h => by rw [← hAe]; exact Or.inr h
  have hS : va_S A s.heap s.heap [] := va_S.rf
  have hP : va_P D cls [(m0, .inr (3, [.ref mb, .ref ml, .ref mm, .int (nI many), .int th, .ref mk])), (mb, .inl (T 0, 1920, .inl fb)), (ml, .inl (T 0, 6, .inl fl)), (mm, .inl (T 0, 600, .inl fm)), (mk, .inl (T 0, 320, .inl fk))] s.heap := hP
  have hl := lv_entry ([.ref m0, .int (nI i), .int (nI w7), .int v]) (n := 5) (Nat.le_of_ble_eq_true rfl)
  rw [lg_entry_eq]
  generalize (lg_sl ([.ref m0, .int (nI i), .int (nI w7), .int v]) ++ List.replicate (5 - (lg_sl ([.ref m0, .int (nI i), .int (nI w7), .int v])).length) Slot.unset).toArray = ls at hl ⊢
  have hl : lv_has ls 5 [(0, .ref m0), (1, .int (nI i)), (2, .int (nI w7)), (3, .int v)] := hl
  have hrow := hMR i hi
  have hn := hrow.2.1
  refine lv_aload_n hx hb dX6_insert_0 rfl (lv_at hl 0 rfl) ?_
  refine lv_aload_n hx hb dX6_insert_1 rfl (lv_at hl 0 rfl) ?_
  refine lv_iload_n hx hb dX6_insert_2 rfl (lv_at hl 1 rfl) ?_
  refine ro_V (As := [.int (nI i)]) (rest := [.ref m0]) (wc := []) (r := .int (nI 1)) ⟨hx, hb, hml, hown, hts⟩ (c_X6_isRow_y l D T g m0 i (by omega)) (cwV 1 hts gX6_insert_X6_isRow rfl rfl rfl (by decide +kernel) ⟨Nat.le_of_ble_eq_true rfl, Nat.le_of_ble_eq_true rfl⟩) (va_recv hK hP (ci := 3) (q0 := 0) rfl rfl) hP hK hG hS [] rfl ⟨Nat.zero_le _, Nat.zero_le _⟩ rfl hl.1 (Nat.le_of_ble_eq_true rfl) dX6_insert_3 rfl ?_
  refine ln_if_eq_f (tgt := 23) hx hb (by omega) (by decide) dX6_insert_6 (by decide) ?_
  refine lv_iload_n hx hb dX6_insert_9 rfl (lv_at hl 2 rfl) ?_
  refine ln_if_lt_f (tgt := 23) hx hb (by omega) dX6_insert_10 (by decide) ?_
  refine lv_iload_n hx hb dX6_insert_13 rfl (lv_at hl 2 rfl) ?_
  refine lv_aload_n hx hb dX6_insert_14 rfl (lv_at hl 0 rfl) ?_
  refine va_get (D := D) (ci := 3) (v := .ref ml) (C := RX6) (T := TX6) (N := 6) hx hb hts hi_X6 hown hK hP 0 rfl rfl 1 (by decide) (hts _ (List.mem_of_getElem? (i := 1) rfl)) (fun _ h9 => h9) rfl dX6_insert_15 ?_
  refine lv_iload_n hx hb dX6_insert_18 rfl (lv_at hl 1 rfl) ?_
  refine ln_iald hx hb hK hP 2 0 rfl rfl ⟨by omega, by omega⟩ dX6_insert_19 ?_
  rw [show fl i = nI (N i) from hrow.1]
  refine ln_icmp_le_t (tgt := 27) hx hb ⟨by omega, by omega⟩ (hp) dX6_insert_20 (by decide) ?_
  refine lv_aload_n hx hb dX6_insert_27 rfl (lv_at hl 0 rfl) ?_
  refine lv_iload_n hx hb dX6_insert_28 rfl (lv_at hl 3 rfl) ?_
  refine ro_V (As := [.int v]) (rest := [.ref m0]) (wc := []) (r := .int (nI 0)) ⟨hx, hb, hml, hown, hts⟩ (c_X6_isByte_n l D T g m0 v hv) (cwV 1 hts gX6_insert_X6_isByte rfl rfl rfl (by decide +kernel) ⟨Nat.le_of_ble_eq_true rfl, Nat.le_of_ble_eq_true rfl⟩) (va_recv hK hP (ci := 3) (q0 := 0) rfl rfl) hP hK hG hS [] rfl ⟨Nat.zero_le _, Nat.zero_le _⟩ rfl hl.1 (Nat.le_of_ble_eq_true rfl) dX6_insert_29 rfl ?_
  refine ln_if_ne_f (tgt := 39) hx hb (by omega) (by decide) dX6_insert_32 (by decide) ?_
  refine lv_iconst (v := (nI 2)) hx hb dX6_insert_35 (by decide +kernel) ?_
  refine lv_goto (tgt := 56) hx hb dX6_insert_36 (by decide) ?_
  refine mu_V (As := [.int (nI 2)]) (rest := []) (wc := [(m0, .inr (3, [.ref mb, .ref ml, .ref mm, .int (nI many), .int th, .ref mk]))]) (wr := [(mb, .inl (T 0, 1920, .inl fb)), (ml, .inl (T 0, 6, .inl fl)), (mm, .inl (T 0, 600, .inl fm)), (mk, .inl (T 0, 320, .inl fk))]) ⟨hx, hb, hml, hown, hts⟩ (c_X6_isWrong_p l D T g s.heap.size m0 mb ml mm mk many th 2 (by omega)) (cwV 1 hts gX6_insert_X6_isWrong rfl rfl rfl (by decide +kernel) ⟨Nat.le_of_ble_eq_true rfl, Nat.le_of_ble_eq_true rfl⟩) (va_recv hK hP (ci := 3) (q0 := 0) rfl rfl) hP hD hK hG hS hA [0] [1, 2, 3, 4] rfl (by decide) rfl (by decide) (by decide) ⟨Nat.le_of_ble_eq_true rfl, Nat.le_of_ble_eq_true rfl⟩ rfl hl.1 (Nat.le_of_ble_eq_true rfl) dX6_insert_56 rfl (fun u H locs hq1 hP hD hS => ?_)
  have hP : va_P D cls [(mb, .inl (T 0, 1920, .inl fb)), (ml, .inl (T 0, 6, .inl fl)), (mm, .inl (T 0, 600, .inl fm)), (mk, .inl (T 0, 320, .inl fk)), (m0, .inr (3, [.ref mb, .ref ml, .ref mm, .int (nI many), .int (nI 2), .ref mk]))] H := hP
  have hD : va_D A [(mb, .inl (T 0, 1920, .inl fb)), (ml, .inl (T 0, 6, .inl fl)), (mm, .inl (T 0, 600, .inl fm)), (mk, .inl (T 0, 320, .inl fk)), (m0, .inr (3, [.ref mb, .ref ml, .ref mm, .int (nI many), .int (nI 2), .ref mk]))] := hD
  refine W.eq (g2 := F0 m 59 ls [.int (nI 1)]) rfl ?_
  refine ln_if_eq_f (tgt := 64) hx hb (by omega) (by decide) dX6_insert_59 (by decide) ?_
  refine lv_iconst (v := (nI 0)) hx hb dX6_insert_62 (by decide +kernel) ?_
  have hP9 := hP.sub (ws' := [(m0, .inr (3, [.ref mb, .ref ml, .ref mm, .int (nI many), .int (nI 2), .ref mk])), (mb, .inl (T 0, 1920, .inl fb)), (ml, .inl (T 0, 6, .inl fl)), (mm, .inl (T 0, 600, .inl fm)), (mk, .inl (T 0, 320, .inl fk))]) [4, 0, 1, 2, 3] rfl
  have hD9 := hD.sub (ws' := [(m0, .inr (3, [.ref mb, .ref ml, .ref mm, .int (nI many), .int (nI 2), .ref mk])), (mb, .inl (T 0, 1920, .inl fb)), (ml, .inl (T 0, 6, .inl fl)), (mm, .inl (T 0, 600, .inl fm)), (mk, .inl (T 0, 320, .inl fk))]) [4, 0, 1, 2, 3] (by decide) rfl
  exact W.iret (v := (nI 0)) hx hb hr (fun t ht hW => ⟨⟨(many, (nI 2), fb, fl, fm, fk), rfl, show (nI 2) = nI 2 ∧ MR fl fb (N) (Bw) from ⟨rfl, hMR⟩, (by rw [ht]; exact hP9), va_K.moved hW.alike hK, hD9⟩, hS.F ht⟩) hS.2.2 dX6_insert_63
set_option maxHeartbeats 4000000 in
set_option maxRecDepth 100000 in
theorem m_insert_4 (l : Launch) (D : va_G) (T : Nat → ClassId) (g : Nat → Nat) (sz : Nat) (m0 : Nat) (mb : Nat) (ml : Nat) (mm : Nat) (mk : Nat) (many : Nat) (th : Int32) (fb : Nat → Int32) (fl : Nat → Int32) (fm : Nat → Int32) (fk : Nat → Int32) (N : Nat → Nat) (Bw : Nat → Nat → Nat) (hMR : MR fl fb N Bw) (i : Nat) (hi : i < 6) (w7 : Nat) (hp : w7 ≤ N i) (v : Nat) (hv : v < 256) (hf : N i = 320) : MU l yX6_insert wsX6_insert ({ frames := 60, cells := 0, slots := 0, locals := 3000 } : Room) D T g [.ref m0, .int (nI i), .int (nI w7), .int (nI v)] [(m0, .inr (3, [.ref mb, .ref ml, .ref mm, .int (nI many), .int th, .ref mk])), (mb, .inl (T 0, 1920, .inl fb)), (ml, .inl (T 0, 6, .inl fl)), (mm, .inl (T 0, 600, .inl fm)), (mk, .inl (T 0, 320, .inl fk))] sz (fun u : Nat × Int32 × (Nat → Int32) × (Nat → Int32) × (Nat → Int32) × (Nat → Int32) => some (.int (nI 0))) (fun u : Nat × Int32 × (Nat → Int32) × (Nat → Int32) × (Nat → Int32) × (Nat → Int32) => u.2.1 = nI 3 ∧ MR u.2.2.2.1 u.2.2.1 (N) (Bw)) (fun u : Nat × Int32 × (Nat → Int32) × (Nat → Int32) × (Nat → Int32) × (Nat → Int32) => [(m0, .inr (3, [.ref mb, .ref ml, .ref mm, .int (nI u.1), .int u.2.1, .ref mk])), (mb, .inl (T 0, 1920, .inl u.2.2.1)), (ml, .inl (T 0, 6, .inl u.2.2.2.1)), (mm, .inl (T 0, 600, .inl u.2.2.2.2.1)), (mk, .inl (T 0, 320, .inl u.2.2.2.2.2))]) 0 0 := by
  refine Met.ofW (cc := cX6_insert) (maxL := 5) (ret := (some .int)) (by decide) rfl ?_
  intro p e s m args below meth c s₁ B hml hv
  obtain ⟨rfl, hsz, hP, hK, hD0, hG⟩ := hv
  have hx := B.exec
  have hb := B.bytes
  have hr := B.returns
  have hts := atoms_spec (ws := wsX6_insert) B.pre
  have hown : s.vm.findClass RX6 = some m.cls := findClass_of_methodNamed B.named
  have hlocks := B.notSynchronized
  have hi_X6 : ∀ w ∈ wsX60, w ∈ wsX6_insert := by decide +kernel
  subst hsz
  have hD := hD0.self (sz := s.heap.size)
  generalize hAe : va_A [(m0, .inr (3, [.ref mb, .ref ml, .ref mm, .int (nI many), .int th, .ref mk])), (mb, .inl (T 0, 1920, .inl fb)), (ml, .inl (T 0, 6, .inl fl)), (mm, .inl (T 0, 600, .inl fm)), (mk, .inl (T 0, 320, .inl fk))] s.heap.size = A at hD hG ⊢
  have hA : ∀ q : Nat, s.heap.size ≤ q → A q := fun q h => by rw [← hAe]; exact Or.inr h
  have hS : va_S A s.heap s.heap [] := va_S.rf
  have hP : va_P D cls [(m0, .inr (3, [.ref mb, .ref ml, .ref mm, .int (nI many), .int th, .ref mk])), (mb, .inl (T 0, 1920, .inl fb)), (ml, .inl (T 0, 6, .inl fl)), (mm, .inl (T 0, 600, .inl fm)), (mk, .inl (T 0, 320, .inl fk))] s.heap := hP
  have hl := lv_entry ([.ref m0, .int (nI i), .int (nI w7), .int (nI v)]) (n := 5) (Nat.le_of_ble_eq_true rfl)
  rw [lg_entry_eq]
  generalize (lg_sl ([.ref m0, .int (nI i), .int (nI w7), .int (nI v)]) ++ List.replicate (5 - (lg_sl ([.ref m0, .int (nI i), .int (nI w7), .int (nI v)])).length) Slot.unset).toArray = ls at hl ⊢
  have hl : lv_has ls 5 [(0, .ref m0), (1, .int (nI i)), (2, .int (nI w7)), (3, .int (nI v))] := hl
  have hrow := hMR i hi
  have hn := hrow.2.1
  refine lv_aload_n hx hb dX6_insert_0 rfl (lv_at hl 0 rfl) ?_
  refine lv_aload_n hx hb dX6_insert_1 rfl (lv_at hl 0 rfl) ?_
  refine lv_iload_n hx hb dX6_insert_2 rfl (lv_at hl 1 rfl) ?_
  refine ro_V (As := [.int (nI i)]) (rest := [.ref m0]) (wc := []) (r := .int (nI 1)) ⟨hx, hb, hml, hown, hts⟩ (c_X6_isRow_y l D T g m0 i (by omega)) (cwV 1 hts gX6_insert_X6_isRow rfl rfl rfl (by decide +kernel) ⟨Nat.le_of_ble_eq_true rfl, Nat.le_of_ble_eq_true rfl⟩) (va_recv hK hP (ci := 3) (q0 := 0) rfl rfl) hP hK hG hS [] rfl ⟨Nat.zero_le _, Nat.zero_le _⟩ rfl hl.1 (Nat.le_of_ble_eq_true rfl) dX6_insert_3 rfl ?_
  refine ln_if_eq_f (tgt := 23) hx hb (by omega) (by decide) dX6_insert_6 (by decide) ?_
  refine lv_iload_n hx hb dX6_insert_9 rfl (lv_at hl 2 rfl) ?_
  refine ln_if_lt_f (tgt := 23) hx hb (by omega) dX6_insert_10 (by decide) ?_
  refine lv_iload_n hx hb dX6_insert_13 rfl (lv_at hl 2 rfl) ?_
  refine lv_aload_n hx hb dX6_insert_14 rfl (lv_at hl 0 rfl) ?_
  refine va_get (D := D) (ci := 3) (v := .ref ml) (C := RX6) (T := TX6) (N := 6) hx hb hts hi_X6 hown hK hP 0 rfl rfl 1 (by decide) (hts _ (List.mem_of_getElem? (i := 1) rfl)) (fun _ h9 => h9) rfl dX6_insert_15 ?_
  refine lv_iload_n hx hb dX6_insert_18 rfl (lv_at hl 1 rfl) ?_
  refine ln_iald hx hb hK hP 2 0 rfl rfl ⟨by omega, by omega⟩ dX6_insert_19 ?_
  rw [show fl i = nI (N i) from hrow.1]
  refine ln_icmp_le_t (tgt := 27) hx hb ⟨by omega, by omega⟩ (hp) dX6_insert_20 (by decide) ?_
  refine lv_aload_n hx hb dX6_insert_27 rfl (lv_at hl 0 rfl) ?_
  refine lv_iload_n hx hb dX6_insert_28 rfl (lv_at hl 3 rfl) ?_
  refine ro_V (As := [.int (nI v)]) (rest := [.ref m0]) (wc := []) (r := .int (nI 1)) ⟨hx, hb, hml, hown, hts⟩ (c_X6_isByte_y l D T g m0 v (by omega)) (cwV 1 hts gX6_insert_X6_isByte rfl rfl rfl (by decide +kernel) ⟨Nat.le_of_ble_eq_true rfl, Nat.le_of_ble_eq_true rfl⟩) (va_recv hK hP (ci := 3) (q0 := 0) rfl rfl) hP hK hG hS [] rfl ⟨Nat.zero_le _, Nat.zero_le _⟩ rfl hl.1 (Nat.le_of_ble_eq_true rfl) dX6_insert_29 rfl ?_
  refine ln_if_ne_t (tgt := 39) hx hb (by omega) (by decide) dX6_insert_32 (by decide) ?_
  refine lv_aload_n hx hb dX6_insert_39 rfl (lv_at hl 0 rfl) ?_
  refine va_get (D := D) (ci := 3) (v := .ref ml) (C := RX6) (T := TX6) (N := 6) hx hb hts hi_X6 hown hK hP 0 rfl rfl 1 (by decide) (hts _ (List.mem_of_getElem? (i := 1) rfl)) (fun _ h9 => h9) rfl dX6_insert_40 ?_
  refine lv_iload_n hx hb dX6_insert_43 rfl (lv_at hl 1 rfl) ?_
  refine ln_iald hx hb hK hP 2 0 rfl rfl ⟨by omega, by omega⟩ dX6_insert_44 ?_
  rw [show fl i = nI (N i) from hrow.1]
  refine lv_sipush (v := (nI 320)) hx hb dX6_insert_45 (by decide +kernel) ?_
  refine ln_icmp_ne_f (tgt := 55) hx hb ⟨by omega, by omega⟩ (hf) dX6_insert_48 (by decide) ?_
  refine lv_iconst (v := (nI 3)) hx hb dX6_insert_51 (by decide +kernel) ?_
  refine lv_goto (tgt := 56) hx hb dX6_insert_52 (by decide) ?_
  refine mu_V (As := [.int (nI 3)]) (rest := []) (wc := [(m0, .inr (3, [.ref mb, .ref ml, .ref mm, .int (nI many), .int th, .ref mk]))]) (wr := [(mb, .inl (T 0, 1920, .inl fb)), (ml, .inl (T 0, 6, .inl fl)), (mm, .inl (T 0, 600, .inl fm)), (mk, .inl (T 0, 320, .inl fk))]) ⟨hx, hb, hml, hown, hts⟩ (c_X6_isWrong_p l D T g s.heap.size m0 mb ml mm mk many th 3 (by omega)) (cwV 1 hts gX6_insert_X6_isWrong rfl rfl rfl (by decide +kernel) ⟨Nat.le_of_ble_eq_true rfl, Nat.le_of_ble_eq_true rfl⟩) (va_recv hK hP (ci := 3) (q0 := 0) rfl rfl) hP hD hK hG hS hA [0] [1, 2, 3, 4] rfl (by decide) rfl (by decide) (by decide) ⟨Nat.le_of_ble_eq_true rfl, Nat.le_of_ble_eq_true rfl⟩ rfl hl.1 (Nat.le_of_ble_eq_true rfl) dX6_insert_56 rfl (fun u H locs hq1 hP hD hS => ?_)
  have hP : va_P D cls [(mb, .inl (T 0, 1920, .inl fb)), (ml, .inl (T 0, 6, .inl fl)), (mm, .inl (T 0, 600, .inl fm)), (mk, .inl (T 0, 320, .inl fk)), (m0, .inr (3, [.ref mb, .ref ml, .ref mm, .int (nI many), .int (nI 3), .ref mk]))] H := hP
  have hD : va_D A [(mb, .inl (T 0, 1920, .inl fb)), (ml, .inl (T 0, 6, .inl fl)), (mm, .inl (T 0, 600, .inl fm)), (mk, .inl (T 0, 320, .inl fk)), (m0, .inr (3, [.ref mb, .ref ml, .ref mm, .int (nI many), .int (nI 3), .ref mk]))] := hD
  refine W.eq (g2 := F0 m 59 ls [.int (nI 1)]) rfl ?_
  refine ln_if_eq_f (tgt := 64) hx hb (by omega) (by decide) dX6_insert_59 (by decide) ?_
  refine lv_iconst (v := (nI 0)) hx hb dX6_insert_62 (by decide +kernel) ?_
  have hP9 := hP.sub (ws' := [(m0, .inr (3, [.ref mb, .ref ml, .ref mm, .int (nI many), .int (nI 3), .ref mk])), (mb, .inl (T 0, 1920, .inl fb)), (ml, .inl (T 0, 6, .inl fl)), (mm, .inl (T 0, 600, .inl fm)), (mk, .inl (T 0, 320, .inl fk))]) [4, 0, 1, 2, 3] rfl
  have hD9 := hD.sub (ws' := [(m0, .inr (3, [.ref mb, .ref ml, .ref mm, .int (nI many), .int (nI 3), .ref mk])), (mb, .inl (T 0, 1920, .inl fb)), (ml, .inl (T 0, 6, .inl fl)), (mm, .inl (T 0, 600, .inl fm)), (mk, .inl (T 0, 320, .inl fk))]) [4, 0, 1, 2, 3] (by decide) rfl
  exact W.iret (v := (nI 0)) hx hb hr (fun t ht hW => ⟨⟨(many, (nI 3), fb, fl, fm, fk), rfl, show (nI 3) = nI 3 ∧ MR fl fb (N) (Bw) from ⟨rfl, hMR⟩, (by rw [ht]; exact hP9), va_K.moved hW.alike hK, hD9⟩, hS.F ht⟩) hS.2.2 dX6_insert_63
set_option maxHeartbeats 4000000 in
set_option maxRecDepth 100000 in
theorem m_insert (l : Launch) (D : va_G) (T : Nat → ClassId) (g : Nat → Nat) (sz : Nat) (m0 : Nat) (mb : Nat) (ml : Nat) (mm : Nat) (mk : Nat) (many : Nat) (th : Int32) (fb : Nat → Int32) (fl : Nat → Int32) (fm : Nat → Int32) (fk : Nat → Int32) (N : Nat → Nat) (Bw : Nat → Nat → Nat) (hMR : MR fl fb N Bw) (i : Nat) (hi : i < 6) (w7 : Nat) (hp : w7 ≤ N i) (v : Nat) (hv : v < 256) (hf : N i < 320) : MU l yX6_insert wsX6_insert ({ frames := 60, cells := 0, slots := 0, locals := 3000 } : Room) D T g [.ref m0, .int (nI i), .int (nI w7), .int (nI v)] [(m0, .inr (3, [.ref mb, .ref ml, .ref mm, .int (nI many), .int th, .ref mk])), (mb, .inl (T 0, 1920, .inl fb)), (ml, .inl (T 0, 6, .inl fl)), (mm, .inl (T 0, 600, .inl fm)), (mk, .inl (T 0, 320, .inl fk))] sz (fun u : Nat × Int32 × (Nat → Int32) × (Nat → Int32) × (Nat → Int32) × (Nat → Int32) => some (.int (nI (N i + 1)))) (fun u : Nat × Int32 × (Nat → Int32) × (Nat → Int32) × (Nat → Int32) × (Nat → Int32) => u.2.1 = nI 0 ∧ MR u.2.2.2.1 u.2.2.1 (upA N i (N i + 1)) (upA Bw i (insN (Bw i) w7 v))) (fun u : Nat × Int32 × (Nat → Int32) × (Nat → Int32) × (Nat → Int32) × (Nat → Int32) => [(m0, .inr (3, [.ref mb, .ref ml, .ref mm, .int (nI u.1), .int u.2.1, .ref mk])), (mb, .inl (T 0, 1920, .inl u.2.2.1)), (ml, .inl (T 0, 6, .inl u.2.2.2.1)), (mm, .inl (T 0, 600, .inl u.2.2.2.2.1)), (mk, .inl (T 0, 320, .inl u.2.2.2.2.2))]) 0 0 := by
  refine Met.ofW (cc := cX6_insert) (maxL := 5) (ret := (some .int)) (by decide) rfl ?_
  intro p e s m args below meth c s₁ B hml hv
  obtain ⟨rfl, hsz, hP, hK, hD0, hG⟩ := hv
  have hx := B.exec
  have hb := B.bytes
  have hr := B.returns
  have hts := atoms_spec (ws := wsX6_insert) B.pre
  have hown : s.vm.findClass RX6 = some m.cls := findClass_of_methodNamed B.named
  have hlocks := B.notSynchronized
  have hi_X6 : ∀ w ∈ wsX60, w ∈ wsX6_insert := by decide +kernel
  subst hsz
  have hD := hD0.self (sz := s.heap.size)
  generalize hAe : va_A [(m0, .inr (3, [.ref mb, .ref ml, .ref mm, .int (nI many), .int th, .ref mk])), (mb, .inl (T 0, 1920, .inl fb)), (ml, .inl (T 0, 6, .inl fl)), (mm, .inl (T 0, 600, .inl fm)), (mk, .inl (T 0, 320, .inl fk))] s.heap.size = A at hD hG ⊢
  have hA : ∀ q : Nat, s.heap.size ≤ q → A q := fun q h => by rw [← hAe]; exact Or.inr h
  have hS : va_S A s.heap s.heap [] := va_S.rf
  have hP : va_P D cls [(m0, .inr (3, [.ref mb, .ref ml, .ref mm, .int (nI many), .int th, .ref mk])), (mb, .inl (T 0, 1920, .inl fb)), (ml, .inl (T 0, 6, .inl fl)), (mm, .inl (T 0, 600, .inl fm)), (mk, .inl (T 0, 320, .inl fk))] s.heap := hP
  have hl := lv_entry ([.ref m0, .int (nI i), .int (nI w7), .int (nI v)]) (n := 5) (Nat.le_of_ble_eq_true rfl)
  rw [lg_entry_eq]
  generalize (lg_sl ([.ref m0, .int (nI i), .int (nI w7), .int (nI v)]) ++ List.replicate (5 - (lg_sl ([.ref m0, .int (nI i), .int (nI w7), .int (nI v)])).length) Slot.unset).toArray = ls at hl ⊢
  have hl : lv_has ls 5 [(0, .ref m0), (1, .int (nI i)), (2, .int (nI w7)), (3, .int (nI v))] := hl
  have hrow := hMR i hi
  have hn := hrow.2.1
  refine lv_aload_n hx hb dX6_insert_0 rfl (lv_at hl 0 rfl) ?_
  refine lv_aload_n hx hb dX6_insert_1 rfl (lv_at hl 0 rfl) ?_
  refine lv_iload_n hx hb dX6_insert_2 rfl (lv_at hl 1 rfl) ?_
  refine ro_V (As := [.int (nI i)]) (rest := [.ref m0]) (wc := []) (r := .int (nI 1)) ⟨hx, hb, hml, hown, hts⟩ (c_X6_isRow_y l D T g m0 i (by omega)) (cwV 1 hts gX6_insert_X6_isRow rfl rfl rfl (by decide +kernel) ⟨Nat.le_of_ble_eq_true rfl, Nat.le_of_ble_eq_true rfl⟩) (va_recv hK hP (ci := 3) (q0 := 0) rfl rfl) hP hK hG hS [] rfl ⟨Nat.zero_le _, Nat.zero_le _⟩ rfl hl.1 (Nat.le_of_ble_eq_true rfl) dX6_insert_3 rfl ?_
  refine ln_if_eq_f (tgt := 23) hx hb (by omega) (by decide) dX6_insert_6 (by decide) ?_
  refine lv_iload_n hx hb dX6_insert_9 rfl (lv_at hl 2 rfl) ?_
  refine ln_if_lt_f (tgt := 23) hx hb (by omega) dX6_insert_10 (by decide) ?_
  refine lv_iload_n hx hb dX6_insert_13 rfl (lv_at hl 2 rfl) ?_
  refine lv_aload_n hx hb dX6_insert_14 rfl (lv_at hl 0 rfl) ?_
  refine va_get (D := D) (ci := 3) (v := .ref ml) (C := RX6) (T := TX6) (N := 6) hx hb hts hi_X6 hown hK hP 0 rfl rfl 1 (by decide) (hts _ (List.mem_of_getElem? (i := 1) rfl)) (fun _ h9 => h9) rfl dX6_insert_15 ?_
  refine lv_iload_n hx hb dX6_insert_18 rfl (lv_at hl 1 rfl) ?_
  refine ln_iald hx hb hK hP 2 0 rfl rfl ⟨by omega, by omega⟩ dX6_insert_19 ?_
  rw [show fl i = nI (N i) from hrow.1]
  refine ln_icmp_le_t (tgt := 27) hx hb ⟨by omega, by omega⟩ (hp) dX6_insert_20 (by decide) ?_
  refine lv_aload_n hx hb dX6_insert_27 rfl (lv_at hl 0 rfl) ?_
  refine lv_iload_n hx hb dX6_insert_28 rfl (lv_at hl 3 rfl) ?_
  refine ro_V (As := [.int (nI v)]) (rest := [.ref m0]) (wc := []) (r := .int (nI 1)) ⟨hx, hb, hml, hown, hts⟩ (c_X6_isByte_y l D T g m0 v (by omega)) (cwV 1 hts gX6_insert_X6_isByte rfl rfl rfl (by decide +kernel) ⟨Nat.le_of_ble_eq_true rfl, Nat.le_of_ble_eq_true rfl⟩) (va_recv hK hP (ci := 3) (q0 := 0) rfl rfl) hP hK hG hS [] rfl ⟨Nat.zero_le _, Nat.zero_le _⟩ rfl hl.1 (Nat.le_of_ble_eq_true rfl) dX6_insert_29 rfl ?_
  refine ln_if_ne_t (tgt := 39) hx hb (by omega) (by decide) dX6_insert_32 (by decide) ?_
  refine lv_aload_n hx hb dX6_insert_39 rfl (lv_at hl 0 rfl) ?_
  refine va_get (D := D) (ci := 3) (v := .ref ml) (C := RX6) (T := TX6) (N := 6) hx hb hts hi_X6 hown hK hP 0 rfl rfl 1 (by decide) (hts _ (List.mem_of_getElem? (i := 1) rfl)) (fun _ h9 => h9) rfl dX6_insert_40 ?_
  refine lv_iload_n hx hb dX6_insert_43 rfl (lv_at hl 1 rfl) ?_
  refine ln_iald hx hb hK hP 2 0 rfl rfl ⟨by omega, by omega⟩ dX6_insert_44 ?_
  rw [show fl i = nI (N i) from hrow.1]
  refine lv_sipush (v := (nI 320)) hx hb dX6_insert_45 (by decide +kernel) ?_
  refine ln_icmp_ne_t (tgt := 55) hx hb ⟨by omega, by omega⟩ (by omega) dX6_insert_48 (by decide) ?_
  refine lv_iconst (v := (nI 0)) hx hb dX6_insert_55 (by decide +kernel) ?_
  refine mu_V (As := [.int (nI 0)]) (rest := []) (wc := [(m0, .inr (3, [.ref mb, .ref ml, .ref mm, .int (nI many), .int th, .ref mk]))]) (wr := [(mb, .inl (T 0, 1920, .inl fb)), (ml, .inl (T 0, 6, .inl fl)), (mm, .inl (T 0, 600, .inl fm)), (mk, .inl (T 0, 320, .inl fk))]) ⟨hx, hb, hml, hown, hts⟩ (c_X6_isWrong_0 l D T g s.heap.size m0 mb ml mm mk many th) (cwV 1 hts gX6_insert_X6_isWrong rfl rfl rfl (by decide +kernel) ⟨Nat.le_of_ble_eq_true rfl, Nat.le_of_ble_eq_true rfl⟩) (va_recv hK hP (ci := 3) (q0 := 0) rfl rfl) hP hD hK hG hS hA [0] [1, 2, 3, 4] rfl (by decide) rfl (by decide) (by decide) ⟨Nat.le_of_ble_eq_true rfl, Nat.le_of_ble_eq_true rfl⟩ rfl hl.1 (Nat.le_of_ble_eq_true rfl) dX6_insert_56 rfl (fun u H locs hq1 hP hD hS => ?_)
  have hP : va_P D cls [(mb, .inl (T 0, 1920, .inl fb)), (ml, .inl (T 0, 6, .inl fl)), (mm, .inl (T 0, 600, .inl fm)), (mk, .inl (T 0, 320, .inl fk)), (m0, .inr (3, [.ref mb, .ref ml, .ref mm, .int (nI many), .int (nI 0), .ref mk]))] H := hP
  have hD : va_D A [(mb, .inl (T 0, 1920, .inl fb)), (ml, .inl (T 0, 6, .inl fl)), (mm, .inl (T 0, 600, .inl fm)), (mk, .inl (T 0, 320, .inl fk)), (m0, .inr (3, [.ref mb, .ref ml, .ref mm, .int (nI many), .int (nI 0), .ref mk]))] := hD
  refine W.eq (g2 := F0 m 59 ls [.int (nI 0)]) rfl ?_
  refine ln_if_eq_t (tgt := 64) hx hb (by omega) (by decide) dX6_insert_59 (by decide) ?_
  refine lv_aload_n hx hb dX6_insert_64 rfl (lv_at hl 0 rfl) ?_
  refine va_get (D := D) (ci := 3) (v := .ref ml) (C := RX6) (T := TX6) (N := 6) hx hb hts hi_X6 hown hK hP 4 rfl rfl 1 (by decide) (hts _ (List.mem_of_getElem? (i := 1) rfl)) (fun _ h9 => h9) rfl dX6_insert_65 ?_
  refine lv_iload_n hx hb dX6_insert_68 rfl (lv_at hl 1 rfl) ?_
  refine ln_iald hx hb hK hP 1 0 rfl rfl ⟨by omega, by omega⟩ dX6_insert_69 ?_
  rw [show fl i = nI (N i) from hrow.1]
  refine lv_istore (lv' := [(4, .int (nI (N i))), (0, .ref m0), (1, .int (nI i)), (2, .int (nI w7)), (3, .int (nI v))]) hx hb dX6_insert_70 hl (by decide) rfl (fun ls hl => ?_)
  have K2 : ∀ (N9 : Nat) (d : Nat) (F : Nat → Int32), (w7 ≤ d ∧ d ≤ N i) → (∀ j, j < d → F (320 * i + j) = fb (320 * i + j)) → (∀ j, d < j → j ≤ N i → F (320 * i + j) = fb (320 * i + (j - 1))) → (∀ q, q < 320 * i ∨ 320 * i + 320 ≤ q → F q = fb q) → d < N9 → ∀ (H : Heap) (locs : List Loc), va_P D cls [(m0, .inr (3, [.ref mb, .ref ml, .ref mm, .int (nI many), .int (nI 0), .ref mk])), (mb, .inl (T 0, 1920, .inl F)), (ml, .inl (T 0, 6, .inl fl)), (mm, .inl (T 0, 600, .inl fm)), (mk, .inl (T 0, 320, .inl fk))] H → va_D A [(m0, .inr (3, [.ref mb, .ref ml, .ref mm, .int (nI many), .int (nI 0), .ref mk])), (mb, .inl (T 0, 1920, .inl F)), (ml, .inl (T 0, 6, .inl fl)), (mm, .inl (T 0, 600, .inl fm)), (mk, .inl (T 0, 320, .inl fk))] → va_S A s.heap H locs → ∀ ls : Array Slot, lv_has ls 5 [(0, .ref m0), (1, .int (nI i)), (2, .int (nI w7)), (3, .int (nI v)), (4, .int (nI d))] → W p l e (headSpec wsX6_insert ({ frames := 60, cells := 0, slots := 0, locals := 3000 } : Room)).room s m ([.ref m0, .int (nI i), .int (nI w7), .int (nI v)] : List Value).toArray below meth c H locs 0 0 (MQ below (QM D T A (fun u : Nat × Int32 × (Nat → Int32) × (Nat → Int32) × (Nat → Int32) × (Nat → Int32) => some (.int (nI (N i + 1)))) (fun u : Nat × Int32 × (Nat → Int32) × (Nat → Int32) × (Nat → Int32) × (Nat → Int32) => u.2.1 = nI 0 ∧ MR u.2.2.2.1 u.2.2.1 (upA N i (N i + 1)) (upA Bw i (insN (Bw i) w7 v))) (fun u : Nat × Int32 × (Nat → Int32) × (Nat → Int32) × (Nat → Int32) × (Nat → Int32) => [(m0, .inr (3, [.ref mb, .ref ml, .ref mm, .int (nI u.1), .int u.2.1, .ref mk])), (mb, .inl (T 0, 1920, .inl u.2.2.1)), (ml, .inl (T 0, 6, .inl u.2.2.2.1)), (mm, .inl (T 0, 600, .inl u.2.2.2.2.1)), (mk, .inl (T 0, 320, .inl u.2.2.2.2.2))])) ([.ref m0, .int (nI i), .int (nI w7), .int (nI v)] : List Value).toArray s 0 0 A) (F0 m 72 ls []) := by
    intro N9
    induction N9 with
    | zero => intro d F hd hlo hhi hfr h9; exact absurd h9 (Nat.not_lt_zero _)
    | succ N9 ih_72 =>
      intro d F hd hlo hhi hfr h9 H locs hP hD hS ls hl
      refine lv_iload hx hb dX6_insert_72 (lv_at hl 4 rfl) ?_
      refine lv_iload_n hx hb dX6_insert_74 rfl (lv_at hl 2 rfl) ?_
      refine ln_icmp_le (tgt := 106) hx hb ⟨by omega, by omega⟩ dX6_insert_75 (by decide) (fun c_75 => ?_) (fun c_75 => ?_)
      · have e9 : d = w7 := by omega
        refine lv_aload_n hx hb dX6_insert_106 rfl (lv_at hl 0 rfl) ?_
        refine va_get (D := D) (ci := 3) (v := .ref mb) (C := RX6) (T := TX6) (N := 6) hx hb hts hi_X6 hown hK hP 0 rfl rfl 0 (by decide) (hts _ (List.mem_of_getElem? (i := 2) rfl)) (fun _ h9 => h9) rfl dX6_insert_107 ?_
        refine lv_sipush (v := (nI 320)) hx hb dX6_insert_110 (by decide +kernel) ?_
        refine lv_iload_n hx hb dX6_insert_113 rfl (lv_at hl 1 rfl) ?_
        refine ln_mul hx hb dX6_insert_114 ?_
        refine lv_iload_n hx hb dX6_insert_115 rfl (lv_at hl 2 rfl) ?_
        refine ln_add hx hb dX6_insert_116 ?_
        refine lv_iload_n hx hb dX6_insert_117 rfl (lv_at hl 3 rfl) ?_
        refine ln_iast hx hb hK hP hD hS 1 0 rfl rfl ⟨by omega, by omega⟩ dX6_insert_118 (fun H locs hP hD hS => ?_)
        have hP : va_P D cls [(m0, .inr (3, [.ref mb, .ref ml, .ref mm, .int (nI many), .int (nI 0), .ref mk])), (mb, .inl (T 0, 1920, .inl (upd F ((320 * i) + w7) (nI v)))), (ml, .inl (T 0, 6, .inl fl)), (mm, .inl (T 0, 600, .inl fm)), (mk, .inl (T 0, 320, .inl fk))] H := hP
        have hD : va_D A [(m0, .inr (3, [.ref mb, .ref ml, .ref mm, .int (nI many), .int (nI 0), .ref mk])), (mb, .inl (T 0, 1920, .inl (upd F ((320 * i) + w7) (nI v)))), (ml, .inl (T 0, 6, .inl fl)), (mm, .inl (T 0, 600, .inl fm)), (mk, .inl (T 0, 320, .inl fk))] := hD
        refine lv_aload_n hx hb dX6_insert_119 rfl (lv_at hl 0 rfl) ?_
        refine va_get (D := D) (ci := 3) (v := .ref ml) (C := RX6) (T := TX6) (N := 6) hx hb hts hi_X6 hown hK hP 0 rfl rfl 1 (by decide) (hts _ (List.mem_of_getElem? (i := 1) rfl)) (fun _ h9 => h9) rfl dX6_insert_120 ?_
        refine lv_iload_n hx hb dX6_insert_123 rfl (lv_at hl 1 rfl) ?_
        refine lv_dup2_11 hx hb dX6_insert_124 rfl rfl ?_
        refine ln_iald hx hb hK hP 2 0 rfl rfl ⟨by omega, by omega⟩ dX6_insert_125 ?_
        rw [show fl i = nI (N i) from hrow.1]
        refine lv_iconst (v := (nI 1)) hx hb dX6_insert_126 (by decide +kernel) ?_
        refine ln_add hx hb dX6_insert_127 ?_
        refine ln_iast hx hb hK hP hD hS 2 0 rfl rfl ⟨by omega, by omega⟩ dX6_insert_128 (fun H locs hP hD hS => ?_)
        have hP : va_P D cls [(m0, .inr (3, [.ref mb, .ref ml, .ref mm, .int (nI many), .int (nI 0), .ref mk])), (mb, .inl (T 0, 1920, .inl (upd F ((320 * i) + w7) (nI v)))), (ml, .inl (T 0, 6, .inl (upd fl i (nI ((N i) + 1))))), (mm, .inl (T 0, 600, .inl fm)), (mk, .inl (T 0, 320, .inl fk))] H := hP
        have hD : va_D A [(m0, .inr (3, [.ref mb, .ref ml, .ref mm, .int (nI many), .int (nI 0), .ref mk])), (mb, .inl (T 0, 1920, .inl (upd F ((320 * i) + w7) (nI v)))), (ml, .inl (T 0, 6, .inl (upd fl i (nI ((N i) + 1))))), (mm, .inl (T 0, 600, .inl fm)), (mk, .inl (T 0, 320, .inl fk))] := hD
        refine lv_aload_n hx hb dX6_insert_129 rfl (lv_at hl 0 rfl) ?_
        refine va_get (D := D) (ci := 3) (v := .ref ml) (C := RX6) (T := TX6) (N := 6) hx hb hts hi_X6 hown hK hP 0 rfl rfl 1 (by decide) (hts _ (List.mem_of_getElem? (i := 1) rfl)) (fun _ h9 => h9) rfl dX6_insert_130 ?_
        refine lv_iload_n hx hb dX6_insert_133 rfl (lv_at hl 1 rfl) ?_
        refine ln_iald hx hb hK hP 2 0 rfl rfl ⟨by omega, by omega⟩ dX6_insert_134 ?_
        rw [show (upd fl i (nI ((N i) + 1))) i = nI (N i + 1) from pk_us]
        have hP9 := hP.sub (ws' := [(m0, .inr (3, [.ref mb, .ref ml, .ref mm, .int (nI many), .int (nI 0), .ref mk])), (mb, .inl (T 0, 1920, .inl (upd F ((320 * i) + w7) (nI v)))), (ml, .inl (T 0, 6, .inl (upd fl i (nI ((N i) + 1))))), (mm, .inl (T 0, 600, .inl fm)), (mk, .inl (T 0, 320, .inl fk))]) [0, 1, 2, 3, 4] rfl
        have hD9 := hD.sub (ws' := [(m0, .inr (3, [.ref mb, .ref ml, .ref mm, .int (nI many), .int (nI 0), .ref mk])), (mb, .inl (T 0, 1920, .inl (upd F ((320 * i) + w7) (nI v)))), (ml, .inl (T 0, 6, .inl (upd fl i (nI ((N i) + 1))))), (mm, .inl (T 0, 600, .inl fm)), (mk, .inl (T 0, 320, .inl fk))]) [0, 1, 2, 3, 4] (by decide) rfl
        exact W.iret (v := (nI (N i + 1))) hx hb hr (fun t ht hW => ⟨⟨(many, (nI 0), upd F ((320 * i) + w7) (nI v), upd fl i (nI ((N i) + 1)), fm, fk), rfl, show (nI 0) = nI 0 ∧ MR (upd fl i (nI ((N i) + 1))) (upd F ((320 * i) + w7) (nI v)) (upA N i (N i + 1)) (upA Bw i (insN (Bw i) w7 v)) from ⟨rfl, MR_upd hMR pk_us (fun j _ hne => pk_un hne) ⟨by omega, fun j hj => by
              by_cases e1 : j = w7
              · subst e1; rw [pk_us]; simp only [insN]; rw [if_neg (by omega), if_pos trivial]; exact ⟨rfl, hv⟩
              · rw [pk_un (by omega)]; simp only [insN]; by_cases e2 : j < w7
                · rw [if_pos e2, hlo j (by omega)]; exact hrow.2.2 j (by omega)
                · rw [if_neg e2, if_neg e1, hhi j (by omega) (by omega)]; exact hrow.2.2 (j - 1) (by omega)⟩ (fun q hq => (pk_un (by omega)).trans (hfr q hq))⟩, (by rw [ht]; exact hP9), va_K.moved hW.alike hK, hD9⟩, hS.F ht⟩) hS.2.2 dX6_insert_135
      · refine lv_aload_n hx hb dX6_insert_78 rfl (lv_at hl 0 rfl) ?_
        refine va_get (D := D) (ci := 3) (v := .ref mb) (C := RX6) (T := TX6) (N := 6) hx hb hts hi_X6 hown hK hP 0 rfl rfl 0 (by decide) (hts _ (List.mem_of_getElem? (i := 2) rfl)) (fun _ h9 => h9) rfl dX6_insert_79 ?_
        refine lv_sipush (v := (nI 320)) hx hb dX6_insert_82 (by decide +kernel) ?_
        refine lv_iload_n hx hb dX6_insert_85 rfl (lv_at hl 1 rfl) ?_
        refine ln_mul hx hb dX6_insert_86 ?_
        refine lv_iload hx hb dX6_insert_87 (lv_at hl 4 rfl) ?_
        refine ln_add hx hb dX6_insert_89 ?_
        refine lv_aload_n hx hb dX6_insert_90 rfl (lv_at hl 0 rfl) ?_
        refine lv_iload_n hx hb dX6_insert_91 rfl (lv_at hl 1 rfl) ?_
        refine lv_iload hx hb dX6_insert_92 (lv_at hl 4 rfl) ?_
        refine lv_iconst (v := (nI 1)) hx hb dX6_insert_94 (by decide +kernel) ?_
        refine ln_sub hx hb (by omega) dX6_insert_95 ?_
        refine ro_V (As := [.int (nI i), .int (nI (d - 1))]) (rest := [.int (nI ((320 * i) + d)), .ref mb]) (wc := [(m0, .inr (3, [.ref mb, .ref ml, .ref mm, .int (nI many), .int (nI 0), .ref mk])), (mb, .inl (T 0, 1920, .inl F))]) (r := .int (F (320 * i + (d - 1)))) ⟨hx, hb, hml, hown, hts⟩ (c_X6_at l D T g m0 mb ml mm mk many (nI 0) F i (d - 1) (by omega)) (cwV 2 hts gX6_insert_X6_at rfl rfl rfl (by decide +kernel) ⟨Nat.le_of_ble_eq_true rfl, Nat.le_of_ble_eq_true rfl⟩) (va_recv hK hP (ci := 3) (q0 := 0) rfl rfl) hP hK hG hS [0, 1] rfl ⟨Nat.zero_le _, Nat.zero_le _⟩ rfl hl.1 (Nat.le_of_ble_eq_true rfl) dX6_insert_96 rfl ?_
        refine ln_iast hx hb hK hP hD hS 1 0 rfl rfl ⟨by omega, by omega⟩ dX6_insert_99 (fun H locs hP hD hS => ?_)
        have hP : va_P D cls [(m0, .inr (3, [.ref mb, .ref ml, .ref mm, .int (nI many), .int (nI 0), .ref mk])), (mb, .inl (T 0, 1920, .inl (upd F ((320 * i) + d) (F (320 * i + (d - 1)))))), (ml, .inl (T 0, 6, .inl fl)), (mm, .inl (T 0, 600, .inl fm)), (mk, .inl (T 0, 320, .inl fk))] H := hP
        have hD : va_D A [(m0, .inr (3, [.ref mb, .ref ml, .ref mm, .int (nI many), .int (nI 0), .ref mk])), (mb, .inl (T 0, 1920, .inl (upd F ((320 * i) + d) (F (320 * i + (d - 1)))))), (ml, .inl (T 0, 6, .inl fl)), (mm, .inl (T 0, 600, .inl fm)), (mk, .inl (T 0, 320, .inl fk))] := hD
        refine lv_iinc (v := (nI (d - 1))) (lv' := [(4, .int (nI (d - 1))), (0, .ref m0), (1, .int (nI i)), (2, .int (nI w7)), (3, .int (nI v))]) hx hb dX6_insert_100 hl (k := 4) rfl (ni_dec (by omega)) (by decide) rfl (fun ls hl => ?_)
        refine lv_goto (tgt := 72) hx hb dX6_insert_103 (by decide) ?_
        exact ih_72 (d - 1) (upd F ((320 * i) + d) (F (320 * i + (d - 1)))) (by omega) (fun j hj => (pk_un (by omega)).trans (hlo j (by omega))) (fun j h1 h2 => by
              by_cases e9 : j = d
              · subst e9; rw [pk_us]; exact hlo _ (by omega)
              · rw [pk_un (by omega)]; exact hhi j (by omega) h2) (fun q hq => (pk_un (by omega)).trans (hfr q hq)) (by omega) _ _ (hP.sub (ws' := [(m0, .inr (3, [.ref mb, .ref ml, .ref mm, .int (nI many), .int (nI 0), .ref mk])), (mb, .inl (T 0, 1920, .inl (upd F ((320 * i) + d) (F (320 * i + (d - 1)))))), (ml, .inl (T 0, 6, .inl fl)), (mm, .inl (T 0, 600, .inl fm)), (mk, .inl (T 0, 320, .inl fk))]) [0, 1, 2, 3, 4] rfl) (hD.sub (ws' := [(m0, .inr (3, [.ref mb, .ref ml, .ref mm, .int (nI many), .int (nI 0), .ref mk])), (mb, .inl (T 0, 1920, .inl (upd F ((320 * i) + d) (F (320 * i + (d - 1)))))), (ml, .inl (T 0, 6, .inl fl)), (mm, .inl (T 0, 600, .inl fm)), (mk, .inl (T 0, 320, .inl fk))]) [0, 1, 2, 3, 4] (by decide) rfl) hS ls (lv_sub hl [1, 2, 3, 4, 0] rfl)
  exact K2 _ (N i) fb (by omega) (fun _ _ => rfl) (fun j h1 h2 => by omega) (fun _ _ => rfl) (Nat.lt_succ_self _) H locs (hP.sub (ws' := [(m0, .inr (3, [.ref mb, .ref ml, .ref mm, .int (nI many), .int (nI 0), .ref mk])), (mb, .inl (T 0, 1920, .inl fb)), (ml, .inl (T 0, 6, .inl fl)), (mm, .inl (T 0, 600, .inl fm)), (mk, .inl (T 0, 320, .inl fk))]) [4, 0, 1, 2, 3] rfl) (hD.sub (ws' := [(m0, .inr (3, [.ref mb, .ref ml, .ref mm, .int (nI many), .int (nI 0), .ref mk])), (mb, .inl (T 0, 1920, .inl fb)), (ml, .inl (T 0, 6, .inl fl)), (mm, .inl (T 0, 600, .inl fm)), (mk, .inl (T 0, 320, .inl fk))]) [4, 0, 1, 2, 3] (by decide) rfl) hS ls (lv_sub hl [1, 2, 3, 4, 0] rfl)
set_option maxHeartbeats 4000000 in
set_option maxRecDepth 100000 in
theorem m_remove_1 (l : Launch) (D : va_G) (T : Nat → ClassId) (g : Nat → Nat) (sz : Nat) (m0 : Nat) (mb : Nat) (ml : Nat) (mm : Nat) (mk : Nat) (many : Nat) (th : Int32) (fb : Nat → Int32) (fl : Nat → Int32) (fm : Nat → Int32) (fk : Nat → Int32) (N : Nat → Nat) (Bw : Nat → Nat → Nat) (hMR : MR fl fb N Bw) (i : Int32) (hi : i < 0 ∨ nI 5 < i) (x0 : Int32) (x1 : Int32) : MU l yX6_remove wsX6_remove ({ frames := 60, cells := 0, slots := 0, locals := 3000 } : Room) D T g [.ref m0, .int i, .int x0, .int x1] [(m0, .inr (3, [.ref mb, .ref ml, .ref mm, .int (nI many), .int th, .ref mk])), (mb, .inl (T 0, 1920, .inl fb)), (ml, .inl (T 0, 6, .inl fl)), (mm, .inl (T 0, 600, .inl fm)), (mk, .inl (T 0, 320, .inl fk))] sz (fun u : Nat × Int32 × (Nat → Int32) × (Nat → Int32) × (Nat → Int32) × (Nat → Int32) => some (.int (nI 0))) (fun u : Nat × Int32 × (Nat → Int32) × (Nat → Int32) × (Nat → Int32) × (Nat → Int32) => u.2.1 = nI 1 ∧ MR u.2.2.2.1 u.2.2.1 (N) (Bw)) (fun u : Nat × Int32 × (Nat → Int32) × (Nat → Int32) × (Nat → Int32) × (Nat → Int32) => [(m0, .inr (3, [.ref mb, .ref ml, .ref mm, .int (nI u.1), .int u.2.1, .ref mk])), (mb, .inl (T 0, 1920, .inl u.2.2.1)), (ml, .inl (T 0, 6, .inl u.2.2.2.1)), (mm, .inl (T 0, 600, .inl u.2.2.2.2.1)), (mk, .inl (T 0, 320, .inl u.2.2.2.2.2))]) 0 0 := by
  refine Met.ofW (cc := cX6_remove) (maxL := 5) (ret := (some .int)) (by decide) rfl ?_
  intro p e s m args below meth c s₁ B hml hv
  obtain ⟨rfl, hsz, hP, hK, hD0, hG⟩ := hv
  have hx := B.exec
  have hb := B.bytes
  have hr := B.returns
  have hts := atoms_spec (ws := wsX6_remove) B.pre
  have hown : s.vm.findClass RX6 = some m.cls := findClass_of_methodNamed B.named
  have hlocks := B.notSynchronized
  subst hsz
  have hD := hD0.self (sz := s.heap.size)
  generalize hAe : va_A [(m0, .inr (3, [.ref mb, .ref ml, .ref mm, .int (nI many), .int th, .ref mk])), (mb, .inl (T 0, 1920, .inl fb)), (ml, .inl (T 0, 6, .inl fl)), (mm, .inl (T 0, 600, .inl fm)), (mk, .inl (T 0, 320, .inl fk))] s.heap.size = A at hD hG ⊢
  have hA : ∀ q : Nat, s.heap.size ≤ q → A q := fun q h => by rw [← hAe]; exact Or.inr h
  have hS : va_S A s.heap s.heap [] := va_S.rf
  have hP : va_P D cls [(m0, .inr (3, [.ref mb, .ref ml, .ref mm, .int (nI many), .int th, .ref mk])), (mb, .inl (T 0, 1920, .inl fb)), (ml, .inl (T 0, 6, .inl fl)), (mm, .inl (T 0, 600, .inl fm)), (mk, .inl (T 0, 320, .inl fk))] s.heap := hP
  have hl := lv_entry ([.ref m0, .int i, .int x0, .int x1]) (n := 5) (Nat.le_of_ble_eq_true rfl)
  rw [lg_entry_eq]
  generalize (lg_sl ([.ref m0, .int i, .int x0, .int x1]) ++ List.replicate (5 - (lg_sl ([.ref m0, .int i, .int x0, .int x1])).length) Slot.unset).toArray = ls at hl ⊢
  have hl : lv_has ls 5 [(0, .ref m0), (1, .int i), (2, .int x0), (3, .int x1)] := hl
  refine lv_aload_n hx hb dX6_remove_0 rfl (lv_at hl 0 rfl) ?_
  refine lv_aload_n hx hb dX6_remove_1 rfl (lv_at hl 0 rfl) ?_
  refine lv_iload_n hx hb dX6_remove_2 rfl (lv_at hl 1 rfl) ?_
  refine ro_V (As := [.int i]) (rest := [.ref m0]) (wc := []) (r := .int (nI 0)) ⟨hx, hb, hml, hown, hts⟩ (c_X6_isRow_n l D T g m0 i hi) (cwV 1 hts gX6_remove_X6_isRow rfl rfl rfl (by decide +kernel) ⟨Nat.le_of_ble_eq_true rfl, Nat.le_of_ble_eq_true rfl⟩) (va_recv hK hP (ci := 3) (q0 := 0) rfl rfl) hP hK hG hS [] rfl ⟨Nat.zero_le _, Nat.zero_le _⟩ rfl hl.1 (Nat.le_of_ble_eq_true rfl) dX6_remove_3 rfl ?_
  refine ln_if_eq_t (tgt := 29) hx hb (by omega) (by decide) dX6_remove_6 (by decide) ?_
  refine lv_iconst (v := (nI 1)) hx hb dX6_remove_29 (by decide +kernel) ?_
  refine lv_goto (tgt := 34) hx hb dX6_remove_30 (by decide) ?_
  refine mu_V (As := [.int (nI 1)]) (rest := []) (wc := [(m0, .inr (3, [.ref mb, .ref ml, .ref mm, .int (nI many), .int th, .ref mk]))]) (wr := [(mb, .inl (T 0, 1920, .inl fb)), (ml, .inl (T 0, 6, .inl fl)), (mm, .inl (T 0, 600, .inl fm)), (mk, .inl (T 0, 320, .inl fk))]) ⟨hx, hb, hml, hown, hts⟩ (c_X6_isWrong_p l D T g s.heap.size m0 mb ml mm mk many th 1 (by omega)) (cwV 1 hts gX6_remove_X6_isWrong rfl rfl rfl (by decide +kernel) ⟨Nat.le_of_ble_eq_true rfl, Nat.le_of_ble_eq_true rfl⟩) (va_recv hK hP (ci := 3) (q0 := 0) rfl rfl) hP hD hK hG hS hA [0] [1, 2, 3, 4] rfl (by decide) rfl (by decide) (by decide) ⟨Nat.le_of_ble_eq_true rfl, Nat.le_of_ble_eq_true rfl⟩ rfl hl.1 (Nat.le_of_ble_eq_true rfl) dX6_remove_34 rfl (fun u H locs hq1 hP hD hS => ?_)
  have hP : va_P D cls [(mb, .inl (T 0, 1920, .inl fb)), (ml, .inl (T 0, 6, .inl fl)), (mm, .inl (T 0, 600, .inl fm)), (mk, .inl (T 0, 320, .inl fk)), (m0, .inr (3, [.ref mb, .ref ml, .ref mm, .int (nI many), .int (nI 1), .ref mk]))] H := hP
  have hD : va_D A [(mb, .inl (T 0, 1920, .inl fb)), (ml, .inl (T 0, 6, .inl fl)), (mm, .inl (T 0, 600, .inl fm)), (mk, .inl (T 0, 320, .inl fk)), (m0, .inr (3, [.ref mb, .ref ml, .ref mm, .int (nI many), .int (nI 1), .ref mk]))] := hD
  refine W.eq (g2 := F0 m 37 ls [.int (nI 1)]) rfl ?_
  refine ln_if_eq_f (tgt := 42) hx hb (by omega) (by decide) dX6_remove_37 (by decide) ?_
  refine lv_iconst (v := (nI 0)) hx hb dX6_remove_40 (by decide +kernel) ?_
  have hP9 := hP.sub (ws' := [(m0, .inr (3, [.ref mb, .ref ml, .ref mm, .int (nI many), .int (nI 1), .ref mk])), (mb, .inl (T 0, 1920, .inl fb)), (ml, .inl (T 0, 6, .inl fl)), (mm, .inl (T 0, 600, .inl fm)), (mk, .inl (T 0, 320, .inl fk))]) [4, 0, 1, 2, 3] rfl
  have hD9 := hD.sub (ws' := [(m0, .inr (3, [.ref mb, .ref ml, .ref mm, .int (nI many), .int (nI 1), .ref mk])), (mb, .inl (T 0, 1920, .inl fb)), (ml, .inl (T 0, 6, .inl fl)), (mm, .inl (T 0, 600, .inl fm)), (mk, .inl (T 0, 320, .inl fk))]) [4, 0, 1, 2, 3] (by decide) rfl
  exact W.iret (v := (nI 0)) hx hb hr (fun t ht hW => ⟨⟨(many, (nI 1), fb, fl, fm, fk), rfl, show (nI 1) = nI 1 ∧ MR fl fb (N) (Bw) from ⟨rfl, hMR⟩, (by rw [ht]; exact hP9), va_K.moved hW.alike hK, hD9⟩, hS.F ht⟩) hS.2.2 dX6_remove_41
set_option maxHeartbeats 4000000 in
set_option maxRecDepth 100000 in
theorem m_remove_2 (l : Launch) (D : va_G) (T : Nat → ClassId) (g : Nat → Nat) (sz : Nat) (m0 : Nat) (mb : Nat) (ml : Nat) (mm : Nat) (mk : Nat) (many : Nat) (th : Int32) (fb : Nat → Int32) (fl : Nat → Int32) (fm : Nat → Int32) (fk : Nat → Int32) (N : Nat → Nat) (Bw : Nat → Nat → Nat) (hMR : MR fl fb N Bw) (i : Nat) (hi : i < 6) (w7 : Int32) (q : Int32) (hp : w7 < 0 ∨ q < 0 ∨ nI (N i) - q < w7) : MU l yX6_remove wsX6_remove ({ frames := 60, cells := 0, slots := 0, locals := 3000 } : Room) D T g [.ref m0, .int (nI i), .int w7, .int q] [(m0, .inr (3, [.ref mb, .ref ml, .ref mm, .int (nI many), .int th, .ref mk])), (mb, .inl (T 0, 1920, .inl fb)), (ml, .inl (T 0, 6, .inl fl)), (mm, .inl (T 0, 600, .inl fm)), (mk, .inl (T 0, 320, .inl fk))] sz (fun u : Nat × Int32 × (Nat → Int32) × (Nat → Int32) × (Nat → Int32) × (Nat → Int32) => some (.int (nI 0))) (fun u : Nat × Int32 × (Nat → Int32) × (Nat → Int32) × (Nat → Int32) × (Nat → Int32) => u.2.1 = nI 1 ∧ MR u.2.2.2.1 u.2.2.1 (N) (Bw)) (fun u : Nat × Int32 × (Nat → Int32) × (Nat → Int32) × (Nat → Int32) × (Nat → Int32) => [(m0, .inr (3, [.ref mb, .ref ml, .ref mm, .int (nI u.1), .int u.2.1, .ref mk])), (mb, .inl (T 0, 1920, .inl u.2.2.1)), (ml, .inl (T 0, 6, .inl u.2.2.2.1)), (mm, .inl (T 0, 600, .inl u.2.2.2.2.1)), (mk, .inl (T 0, 320, .inl u.2.2.2.2.2))]) 0 0 := by
  refine Met.ofW (cc := cX6_remove) (maxL := 5) (ret := (some .int)) (by decide) rfl ?_
  intro p e s m args below meth c s₁ B hml hv
  obtain ⟨rfl, hsz, hP, hK, hD0, hG⟩ := hv
  have hx := B.exec
  have hb := B.bytes
  have hr := B.returns
  have hts := atoms_spec (ws := wsX6_remove) B.pre
  have hown : s.vm.findClass RX6 = some m.cls := findClass_of_methodNamed B.named
  have hlocks := B.notSynchronized
  have hi_X6 : ∀ w ∈ wsX60, w ∈ wsX6_remove := by decide +kernel
  subst hsz
  have hD := hD0.self (sz := s.heap.size)
  generalize hAe : va_A [(m0, .inr (3, [.ref mb, .ref ml, .ref mm, .int (nI many), .int th, .ref mk])), (mb, .inl (T 0, 1920, .inl fb)), (ml, .inl (T 0, 6, .inl fl)), (mm, .inl (T 0, 600, .inl fm)), (mk, .inl (T 0, 320, .inl fk))] s.heap.size = A at hD hG ⊢
  have hA : ∀ q : Nat, s.heap.size ≤ q → A q := fun q h => by rw [← hAe]; exact Or.inr h
  have hS : va_S A s.heap s.heap [] := va_S.rf
  have hP : va_P D cls [(m0, .inr (3, [.ref mb, .ref ml, .ref mm, .int (nI many), .int th, .ref mk])), (mb, .inl (T 0, 1920, .inl fb)), (ml, .inl (T 0, 6, .inl fl)), (mm, .inl (T 0, 600, .inl fm)), (mk, .inl (T 0, 320, .inl fk))] s.heap := hP
  have hl := lv_entry ([.ref m0, .int (nI i), .int w7, .int q]) (n := 5) (Nat.le_of_ble_eq_true rfl)
  rw [lg_entry_eq]
  generalize (lg_sl ([.ref m0, .int (nI i), .int w7, .int q]) ++ List.replicate (5 - (lg_sl ([.ref m0, .int (nI i), .int w7, .int q])).length) Slot.unset).toArray = ls at hl ⊢
  have hl : lv_has ls 5 [(0, .ref m0), (1, .int (nI i)), (2, .int w7), (3, .int q)] := hl
  have hrow := hMR i hi
  have hn := hrow.2.1
  refine lv_aload_n hx hb dX6_remove_0 rfl (lv_at hl 0 rfl) ?_
  refine lv_aload_n hx hb dX6_remove_1 rfl (lv_at hl 0 rfl) ?_
  refine lv_iload_n hx hb dX6_remove_2 rfl (lv_at hl 1 rfl) ?_
  refine ro_V (As := [.int (nI i)]) (rest := [.ref m0]) (wc := []) (r := .int (nI 1)) ⟨hx, hb, hml, hown, hts⟩ (c_X6_isRow_y l D T g m0 i (by omega)) (cwV 1 hts gX6_remove_X6_isRow rfl rfl rfl (by decide +kernel) ⟨Nat.le_of_ble_eq_true rfl, Nat.le_of_ble_eq_true rfl⟩) (va_recv hK hP (ci := 3) (q0 := 0) rfl rfl) hP hK hG hS [] rfl ⟨Nat.zero_le _, Nat.zero_le _⟩ rfl hl.1 (Nat.le_of_ble_eq_true rfl) dX6_remove_3 rfl ?_
  refine ln_if_eq_f (tgt := 29) hx hb (by omega) (by decide) dX6_remove_6 (by decide) ?_
  refine lv_iload_n hx hb dX6_remove_9 rfl (lv_at hl 2 rfl) ?_
  refine lv_if_lt (tgt := 29) hx hb dX6_remove_10 (by decide) (fun c_10 => ?_) (fun c_10 => ?_)
  · refine lv_iconst (v := (nI 1)) hx hb dX6_remove_29 (by decide +kernel) ?_
    refine lv_goto (tgt := 34) hx hb dX6_remove_30 (by decide) ?_
    refine mu_V (As := [.int (nI 1)]) (rest := []) (wc := [(m0, .inr (3, [.ref mb, .ref ml, .ref mm, .int (nI many), .int th, .ref mk]))]) (wr := [(mb, .inl (T 0, 1920, .inl fb)), (ml, .inl (T 0, 6, .inl fl)), (mm, .inl (T 0, 600, .inl fm)), (mk, .inl (T 0, 320, .inl fk))]) ⟨hx, hb, hml, hown, hts⟩ (c_X6_isWrong_p l D T g s.heap.size m0 mb ml mm mk many th 1 (by omega)) (cwV 1 hts gX6_remove_X6_isWrong rfl rfl rfl (by decide +kernel) ⟨Nat.le_of_ble_eq_true rfl, Nat.le_of_ble_eq_true rfl⟩) (va_recv hK hP (ci := 3) (q0 := 0) rfl rfl) hP hD hK hG hS hA [0] [1, 2, 3, 4] rfl (by decide) rfl (by decide) (by decide) ⟨Nat.le_of_ble_eq_true rfl, Nat.le_of_ble_eq_true rfl⟩ rfl hl.1 (Nat.le_of_ble_eq_true rfl) dX6_remove_34 rfl (fun u H locs hq1 hP hD hS => ?_)
    have hP : va_P D cls [(mb, .inl (T 0, 1920, .inl fb)), (ml, .inl (T 0, 6, .inl fl)), (mm, .inl (T 0, 600, .inl fm)), (mk, .inl (T 0, 320, .inl fk)), (m0, .inr (3, [.ref mb, .ref ml, .ref mm, .int (nI many), .int (nI 1), .ref mk]))] H := hP
    have hD : va_D A [(mb, .inl (T 0, 1920, .inl fb)), (ml, .inl (T 0, 6, .inl fl)), (mm, .inl (T 0, 600, .inl fm)), (mk, .inl (T 0, 320, .inl fk)), (m0, .inr (3, [.ref mb, .ref ml, .ref mm, .int (nI many), .int (nI 1), .ref mk]))] := hD
    refine W.eq (g2 := F0 m 37 ls [.int (nI 1)]) rfl ?_
    refine ln_if_eq_f (tgt := 42) hx hb (by omega) (by decide) dX6_remove_37 (by decide) ?_
    refine lv_iconst (v := (nI 0)) hx hb dX6_remove_40 (by decide +kernel) ?_
    have hP9 := hP.sub (ws' := [(m0, .inr (3, [.ref mb, .ref ml, .ref mm, .int (nI many), .int (nI 1), .ref mk])), (mb, .inl (T 0, 1920, .inl fb)), (ml, .inl (T 0, 6, .inl fl)), (mm, .inl (T 0, 600, .inl fm)), (mk, .inl (T 0, 320, .inl fk))]) [4, 0, 1, 2, 3] rfl
    have hD9 := hD.sub (ws' := [(m0, .inr (3, [.ref mb, .ref ml, .ref mm, .int (nI many), .int (nI 1), .ref mk])), (mb, .inl (T 0, 1920, .inl fb)), (ml, .inl (T 0, 6, .inl fl)), (mm, .inl (T 0, 600, .inl fm)), (mk, .inl (T 0, 320, .inl fk))]) [4, 0, 1, 2, 3] (by decide) rfl
    exact W.iret (v := (nI 0)) hx hb hr (fun t ht hW => ⟨⟨(many, (nI 1), fb, fl, fm, fk), rfl, show (nI 1) = nI 1 ∧ MR fl fb (N) (Bw) from ⟨rfl, hMR⟩, (by rw [ht]; exact hP9), va_K.moved hW.alike hK, hD9⟩, hS.F ht⟩) hS.2.2 dX6_remove_41
  · refine lv_iload_n hx hb dX6_remove_13 rfl (lv_at hl 3 rfl) ?_
    refine lv_if_lt (tgt := 29) hx hb dX6_remove_14 (by decide) (fun c_14 => ?_) (fun c_14 => ?_)
    · refine lv_iconst (v := (nI 1)) hx hb dX6_remove_29 (by decide +kernel) ?_
      refine lv_goto (tgt := 34) hx hb dX6_remove_30 (by decide) ?_
      refine mu_V (As := [.int (nI 1)]) (rest := []) (wc := [(m0, .inr (3, [.ref mb, .ref ml, .ref mm, .int (nI many), .int th, .ref mk]))]) (wr := [(mb, .inl (T 0, 1920, .inl fb)), (ml, .inl (T 0, 6, .inl fl)), (mm, .inl (T 0, 600, .inl fm)), (mk, .inl (T 0, 320, .inl fk))]) ⟨hx, hb, hml, hown, hts⟩ (c_X6_isWrong_p l D T g s.heap.size m0 mb ml mm mk many th 1 (by omega)) (cwV 1 hts gX6_remove_X6_isWrong rfl rfl rfl (by decide +kernel) ⟨Nat.le_of_ble_eq_true rfl, Nat.le_of_ble_eq_true rfl⟩) (va_recv hK hP (ci := 3) (q0 := 0) rfl rfl) hP hD hK hG hS hA [0] [1, 2, 3, 4] rfl (by decide) rfl (by decide) (by decide) ⟨Nat.le_of_ble_eq_true rfl, Nat.le_of_ble_eq_true rfl⟩ rfl hl.1 (Nat.le_of_ble_eq_true rfl) dX6_remove_34 rfl (fun u H locs hq2 hP hD hS => ?_)
      have hP : va_P D cls [(mb, .inl (T 0, 1920, .inl fb)), (ml, .inl (T 0, 6, .inl fl)), (mm, .inl (T 0, 600, .inl fm)), (mk, .inl (T 0, 320, .inl fk)), (m0, .inr (3, [.ref mb, .ref ml, .ref mm, .int (nI many), .int (nI 1), .ref mk]))] H := hP
      have hD : va_D A [(mb, .inl (T 0, 1920, .inl fb)), (ml, .inl (T 0, 6, .inl fl)), (mm, .inl (T 0, 600, .inl fm)), (mk, .inl (T 0, 320, .inl fk)), (m0, .inr (3, [.ref mb, .ref ml, .ref mm, .int (nI many), .int (nI 1), .ref mk]))] := hD
      refine W.eq (g2 := F0 m 37 ls [.int (nI 1)]) rfl ?_
      refine ln_if_eq_f (tgt := 42) hx hb (by omega) (by decide) dX6_remove_37 (by decide) ?_
      refine lv_iconst (v := (nI 0)) hx hb dX6_remove_40 (by decide +kernel) ?_
      have hP9 := hP.sub (ws' := [(m0, .inr (3, [.ref mb, .ref ml, .ref mm, .int (nI many), .int (nI 1), .ref mk])), (mb, .inl (T 0, 1920, .inl fb)), (ml, .inl (T 0, 6, .inl fl)), (mm, .inl (T 0, 600, .inl fm)), (mk, .inl (T 0, 320, .inl fk))]) [4, 0, 1, 2, 3] rfl
      have hD9 := hD.sub (ws' := [(m0, .inr (3, [.ref mb, .ref ml, .ref mm, .int (nI many), .int (nI 1), .ref mk])), (mb, .inl (T 0, 1920, .inl fb)), (ml, .inl (T 0, 6, .inl fl)), (mm, .inl (T 0, 600, .inl fm)), (mk, .inl (T 0, 320, .inl fk))]) [4, 0, 1, 2, 3] (by decide) rfl
      exact W.iret (v := (nI 0)) hx hb hr (fun t ht hW => ⟨⟨(many, (nI 1), fb, fl, fm, fk), rfl, show (nI 1) = nI 1 ∧ MR fl fb (N) (Bw) from ⟨rfl, hMR⟩, (by rw [ht]; exact hP9), va_K.moved hW.alike hK, hD9⟩, hS.F ht⟩) hS.2.2 dX6_remove_41
    · refine lv_iload_n hx hb dX6_remove_17 rfl (lv_at hl 2 rfl) ?_
      refine lv_aload_n hx hb dX6_remove_18 rfl (lv_at hl 0 rfl) ?_
      refine va_get (D := D) (ci := 3) (v := .ref ml) (C := RX6) (T := TX6) (N := 6) hx hb hts hi_X6 hown hK hP 0 rfl rfl 1 (by decide) (hts _ (List.mem_of_getElem? (i := 1) rfl)) (fun _ h9 => h9) rfl dX6_remove_19 ?_
      refine lv_iload_n hx hb dX6_remove_22 rfl (lv_at hl 1 rfl) ?_
      refine ln_iald hx hb hK hP 2 0 rfl rfl ⟨by omega, by omega⟩ dX6_remove_23 ?_
      rw [show fl i = nI (N i) from hrow.1]
      refine lv_iload_n hx hb dX6_remove_24 rfl (lv_at hl 3 rfl) ?_
      refine lv_isub hx hb dX6_remove_25 ?_
      refine lv_icmp_le (tgt := 33) hx hb dX6_remove_26 (by decide) (fun q9 => absurd q9 (Int32.not_le.mpr (hp.elim (fun z => absurd z c_10) (fun z => z.elim (fun y => absurd y c_14) id)))) (fun _ => ?_)
      refine lv_iconst (v := (nI 1)) hx hb dX6_remove_29 (by decide +kernel) ?_
      refine lv_goto (tgt := 34) hx hb dX6_remove_30 (by decide) ?_
      refine mu_V (As := [.int (nI 1)]) (rest := []) (wc := [(m0, .inr (3, [.ref mb, .ref ml, .ref mm, .int (nI many), .int th, .ref mk]))]) (wr := [(mb, .inl (T 0, 1920, .inl fb)), (ml, .inl (T 0, 6, .inl fl)), (mm, .inl (T 0, 600, .inl fm)), (mk, .inl (T 0, 320, .inl fk))]) ⟨hx, hb, hml, hown, hts⟩ (c_X6_isWrong_p l D T g s.heap.size m0 mb ml mm mk many th 1 (by omega)) (cwV 1 hts gX6_remove_X6_isWrong rfl rfl rfl (by decide +kernel) ⟨Nat.le_of_ble_eq_true rfl, Nat.le_of_ble_eq_true rfl⟩) (va_recv hK hP (ci := 3) (q0 := 0) rfl rfl) hP hD hK hG hS hA [0] [1, 2, 3, 4] rfl (by decide) rfl (by decide) (by decide) ⟨Nat.le_of_ble_eq_true rfl, Nat.le_of_ble_eq_true rfl⟩ rfl hl.1 (Nat.le_of_ble_eq_true rfl) dX6_remove_34 rfl (fun u H locs hq3 hP hD hS => ?_)
      have hP : va_P D cls [(mb, .inl (T 0, 1920, .inl fb)), (ml, .inl (T 0, 6, .inl fl)), (mm, .inl (T 0, 600, .inl fm)), (mk, .inl (T 0, 320, .inl fk)), (m0, .inr (3, [.ref mb, .ref ml, .ref mm, .int (nI many), .int (nI 1), .ref mk]))] H := hP
      have hD : va_D A [(mb, .inl (T 0, 1920, .inl fb)), (ml, .inl (T 0, 6, .inl fl)), (mm, .inl (T 0, 600, .inl fm)), (mk, .inl (T 0, 320, .inl fk)), (m0, .inr (3, [.ref mb, .ref ml, .ref mm, .int (nI many), .int (nI 1), .ref mk]))] := hD
      refine W.eq (g2 := F0 m 37 ls [.int (nI 1)]) rfl ?_
      refine ln_if_eq_f (tgt := 42) hx hb (by omega) (by decide) dX6_remove_37 (by decide) ?_
      refine lv_iconst (v := (nI 0)) hx hb dX6_remove_40 (by decide +kernel) ?_
      have hP9 := hP.sub (ws' := [(m0, .inr (3, [.ref mb, .ref ml, .ref mm, .int (nI many), .int (nI 1), .ref mk])), (mb, .inl (T 0, 1920, .inl fb)), (ml, .inl (T 0, 6, .inl fl)), (mm, .inl (T 0, 600, .inl fm)), (mk, .inl (T 0, 320, .inl fk))]) [4, 0, 1, 2, 3] rfl
      have hD9 := hD.sub (ws' := [(m0, .inr (3, [.ref mb, .ref ml, .ref mm, .int (nI many), .int (nI 1), .ref mk])), (mb, .inl (T 0, 1920, .inl fb)), (ml, .inl (T 0, 6, .inl fl)), (mm, .inl (T 0, 600, .inl fm)), (mk, .inl (T 0, 320, .inl fk))]) [4, 0, 1, 2, 3] (by decide) rfl
      exact W.iret (v := (nI 0)) hx hb hr (fun t ht hW => ⟨⟨(many, (nI 1), fb, fl, fm, fk), rfl, show (nI 1) = nI 1 ∧ MR fl fb (N) (Bw) from ⟨rfl, hMR⟩, (by rw [ht]; exact hP9), va_K.moved hW.alike hK, hD9⟩, hS.F ht⟩) hS.2.2 dX6_remove_41
set_option maxHeartbeats 4000000 in
set_option maxRecDepth 100000 in
theorem m_remove (l : Launch) (D : va_G) (T : Nat → ClassId) (g : Nat → Nat) (sz : Nat) (m0 : Nat) (mb : Nat) (ml : Nat) (mm : Nat) (mk : Nat) (many : Nat) (th : Int32) (fb : Nat → Int32) (fl : Nat → Int32) (fm : Nat → Int32) (fk : Nat → Int32) (N : Nat → Nat) (Bw : Nat → Nat → Nat) (hMR : MR fl fb N Bw) (i : Nat) (hi : i < 6) (w7 : Nat) (q : Nat) (hp : w7 + q ≤ N i) : MU l yX6_remove wsX6_remove ({ frames := 60, cells := 0, slots := 0, locals := 3000 } : Room) D T g [.ref m0, .int (nI i), .int (nI w7), .int (nI q)] [(m0, .inr (3, [.ref mb, .ref ml, .ref mm, .int (nI many), .int th, .ref mk])), (mb, .inl (T 0, 1920, .inl fb)), (ml, .inl (T 0, 6, .inl fl)), (mm, .inl (T 0, 600, .inl fm)), (mk, .inl (T 0, 320, .inl fk))] sz (fun u : Nat × Int32 × (Nat → Int32) × (Nat → Int32) × (Nat → Int32) × (Nat → Int32) => some (.int (nI (N i - q)))) (fun u : Nat × Int32 × (Nat → Int32) × (Nat → Int32) × (Nat → Int32) × (Nat → Int32) => u.2.1 = nI 0 ∧ MR u.2.2.2.1 u.2.2.1 (upA N i (N i - q)) (upA Bw i (delN (Bw i) w7 q))) (fun u : Nat × Int32 × (Nat → Int32) × (Nat → Int32) × (Nat → Int32) × (Nat → Int32) => [(m0, .inr (3, [.ref mb, .ref ml, .ref mm, .int (nI u.1), .int u.2.1, .ref mk])), (mb, .inl (T 0, 1920, .inl u.2.2.1)), (ml, .inl (T 0, 6, .inl u.2.2.2.1)), (mm, .inl (T 0, 600, .inl u.2.2.2.2.1)), (mk, .inl (T 0, 320, .inl u.2.2.2.2.2))]) 0 0 := by
  refine Met.ofW (cc := cX6_remove) (maxL := 5) (ret := (some .int)) (by decide) rfl ?_
  intro p e s m args below meth c s₁ B hml hv
  obtain ⟨rfl, hsz, hP, hK, hD0, hG⟩ := hv
  have hx := B.exec
  have hb := B.bytes
  have hr := B.returns
  have hts := atoms_spec (ws := wsX6_remove) B.pre
  have hown : s.vm.findClass RX6 = some m.cls := findClass_of_methodNamed B.named
  have hlocks := B.notSynchronized
  have hi_X6 : ∀ w ∈ wsX60, w ∈ wsX6_remove := by decide +kernel
  subst hsz
  have hD := hD0.self (sz := s.heap.size)
  generalize hAe : va_A [(m0, .inr (3, [.ref mb, .ref ml, .ref mm, .int (nI many), .int th, .ref mk])), (mb, .inl (T 0, 1920, .inl fb)), (ml, .inl (T 0, 6, .inl fl)), (mm, .inl (T 0, 600, .inl fm)), (mk, .inl (T 0, 320, .inl fk))] s.heap.size = A at hD hG ⊢
  have hA : ∀ q : Nat, s.heap.size ≤ q → A q := fun q h => by rw [← hAe]; exact Or.inr h
  have hS : va_S A s.heap s.heap [] := va_S.rf
  have hP : va_P D cls [(m0, .inr (3, [.ref mb, .ref ml, .ref mm, .int (nI many), .int th, .ref mk])), (mb, .inl (T 0, 1920, .inl fb)), (ml, .inl (T 0, 6, .inl fl)), (mm, .inl (T 0, 600, .inl fm)), (mk, .inl (T 0, 320, .inl fk))] s.heap := hP
  have hl := lv_entry ([.ref m0, .int (nI i), .int (nI w7), .int (nI q)]) (n := 5) (Nat.le_of_ble_eq_true rfl)
  rw [lg_entry_eq]
  generalize (lg_sl ([.ref m0, .int (nI i), .int (nI w7), .int (nI q)]) ++ List.replicate (5 - (lg_sl ([.ref m0, .int (nI i), .int (nI w7), .int (nI q)])).length) Slot.unset).toArray = ls at hl ⊢
  have hl : lv_has ls 5 [(0, .ref m0), (1, .int (nI i)), (2, .int (nI w7)), (3, .int (nI q))] := hl
  have hrow := hMR i hi
  have hn := hrow.2.1
  refine lv_aload_n hx hb dX6_remove_0 rfl (lv_at hl 0 rfl) ?_
  refine lv_aload_n hx hb dX6_remove_1 rfl (lv_at hl 0 rfl) ?_
  refine lv_iload_n hx hb dX6_remove_2 rfl (lv_at hl 1 rfl) ?_
  refine ro_V (As := [.int (nI i)]) (rest := [.ref m0]) (wc := []) (r := .int (nI 1)) ⟨hx, hb, hml, hown, hts⟩ (c_X6_isRow_y l D T g m0 i (by omega)) (cwV 1 hts gX6_remove_X6_isRow rfl rfl rfl (by decide +kernel) ⟨Nat.le_of_ble_eq_true rfl, Nat.le_of_ble_eq_true rfl⟩) (va_recv hK hP (ci := 3) (q0 := 0) rfl rfl) hP hK hG hS [] rfl ⟨Nat.zero_le _, Nat.zero_le _⟩ rfl hl.1 (Nat.le_of_ble_eq_true rfl) dX6_remove_3 rfl ?_
  refine ln_if_eq_f (tgt := 29) hx hb (by omega) (by decide) dX6_remove_6 (by decide) ?_
  refine lv_iload_n hx hb dX6_remove_9 rfl (lv_at hl 2 rfl) ?_
  refine ln_if_lt_f (tgt := 29) hx hb (by omega) dX6_remove_10 (by decide) ?_
  refine lv_iload_n hx hb dX6_remove_13 rfl (lv_at hl 3 rfl) ?_
  refine ln_if_lt_f (tgt := 29) hx hb (by omega) dX6_remove_14 (by decide) ?_
  refine lv_iload_n hx hb dX6_remove_17 rfl (lv_at hl 2 rfl) ?_
  refine lv_aload_n hx hb dX6_remove_18 rfl (lv_at hl 0 rfl) ?_
  refine va_get (D := D) (ci := 3) (v := .ref ml) (C := RX6) (T := TX6) (N := 6) hx hb hts hi_X6 hown hK hP 0 rfl rfl 1 (by decide) (hts _ (List.mem_of_getElem? (i := 1) rfl)) (fun _ h9 => h9) rfl dX6_remove_19 ?_
  refine lv_iload_n hx hb dX6_remove_22 rfl (lv_at hl 1 rfl) ?_
  refine ln_iald hx hb hK hP 2 0 rfl rfl ⟨by omega, by omega⟩ dX6_remove_23 ?_
  rw [show fl i = nI (N i) from hrow.1]
  refine lv_iload_n hx hb dX6_remove_24 rfl (lv_at hl 3 rfl) ?_
  refine ln_sub hx hb (by omega) dX6_remove_25 ?_
  refine ln_icmp_le_t (tgt := 33) hx hb ⟨by omega, by omega⟩ (by omega) dX6_remove_26 (by decide) ?_
  refine lv_iconst (v := (nI 0)) hx hb dX6_remove_33 (by decide +kernel) ?_
  refine mu_V (As := [.int (nI 0)]) (rest := []) (wc := [(m0, .inr (3, [.ref mb, .ref ml, .ref mm, .int (nI many), .int th, .ref mk]))]) (wr := [(mb, .inl (T 0, 1920, .inl fb)), (ml, .inl (T 0, 6, .inl fl)), (mm, .inl (T 0, 600, .inl fm)), (mk, .inl (T 0, 320, .inl fk))]) ⟨hx, hb, hml, hown, hts⟩ (c_X6_isWrong_0 l D T g s.heap.size m0 mb ml mm mk many th) (cwV 1 hts gX6_remove_X6_isWrong rfl rfl rfl (by decide +kernel) ⟨Nat.le_of_ble_eq_true rfl, Nat.le_of_ble_eq_true rfl⟩) (va_recv hK hP (ci := 3) (q0 := 0) rfl rfl) hP hD hK hG hS hA [0] [1, 2, 3, 4] rfl (by decide) rfl (by decide) (by decide) ⟨Nat.le_of_ble_eq_true rfl, Nat.le_of_ble_eq_true rfl⟩ rfl hl.1 (Nat.le_of_ble_eq_true rfl) dX6_remove_34 rfl (fun u H locs hq1 hP hD hS => ?_)
  have hP : va_P D cls [(mb, .inl (T 0, 1920, .inl fb)), (ml, .inl (T 0, 6, .inl fl)), (mm, .inl (T 0, 600, .inl fm)), (mk, .inl (T 0, 320, .inl fk)), (m0, .inr (3, [.ref mb, .ref ml, .ref mm, .int (nI many), .int (nI 0), .ref mk]))] H := hP
  have hD : va_D A [(mb, .inl (T 0, 1920, .inl fb)), (ml, .inl (T 0, 6, .inl fl)), (mm, .inl (T 0, 600, .inl fm)), (mk, .inl (T 0, 320, .inl fk)), (m0, .inr (3, [.ref mb, .ref ml, .ref mm, .int (nI many), .int (nI 0), .ref mk]))] := hD
  refine W.eq (g2 := F0 m 37 ls [.int (nI 0)]) rfl ?_
  refine ln_if_eq_t (tgt := 42) hx hb (by omega) (by decide) dX6_remove_37 (by decide) ?_
  refine lv_aload_n hx hb dX6_remove_42 rfl (lv_at hl 0 rfl) ?_
  refine va_get (D := D) (ci := 3) (v := .ref ml) (C := RX6) (T := TX6) (N := 6) hx hb hts hi_X6 hown hK hP 4 rfl rfl 1 (by decide) (hts _ (List.mem_of_getElem? (i := 1) rfl)) (fun _ h9 => h9) rfl dX6_remove_43 ?_
  refine lv_iload_n hx hb dX6_remove_46 rfl (lv_at hl 1 rfl) ?_
  refine lv_dup2_11 hx hb dX6_remove_47 rfl rfl ?_
  refine ln_iald hx hb hK hP 1 0 rfl rfl ⟨by omega, by omega⟩ dX6_remove_48 ?_
  rw [show fl i = nI (N i) from hrow.1]
  refine lv_iload_n hx hb dX6_remove_49 rfl (lv_at hl 3 rfl) ?_
  refine ln_sub hx hb (by omega) dX6_remove_50 ?_
  refine ln_iast hx hb hK hP hD hS 1 0 rfl rfl ⟨by omega, by omega⟩ dX6_remove_51 (fun H locs hP hD hS => ?_)
  have hP : va_P D cls [(mb, .inl (T 0, 1920, .inl fb)), (ml, .inl (T 0, 6, .inl (upd fl i (nI ((N i) - q))))), (mm, .inl (T 0, 600, .inl fm)), (mk, .inl (T 0, 320, .inl fk)), (m0, .inr (3, [.ref mb, .ref ml, .ref mm, .int (nI many), .int (nI 0), .ref mk]))] H := hP
  have hD : va_D A [(mb, .inl (T 0, 1920, .inl fb)), (ml, .inl (T 0, 6, .inl (upd fl i (nI ((N i) - q))))), (mm, .inl (T 0, 600, .inl fm)), (mk, .inl (T 0, 320, .inl fk)), (m0, .inr (3, [.ref mb, .ref ml, .ref mm, .int (nI many), .int (nI 0), .ref mk]))] := hD
  refine lv_iload_n hx hb dX6_remove_52 rfl (lv_at hl 2 rfl) ?_
  refine lv_istore (lv' := [(4, .int (nI w7)), (0, .ref m0), (1, .int (nI i)), (2, .int (nI w7)), (3, .int (nI q))]) hx hb dX6_remove_53 hl (by decide) rfl (fun ls hl => ?_)
  have K2 : ∀ (N9 : Nat) (d : Nat) (F : Nat → Int32), (w7 ≤ d ∧ d ≤ N i - q) → (∀ j, j < d → F (320 * i + j) = fb (320 * i + (if j < w7 then j else j + q))) → (∀ j, d ≤ j → F (320 * i + j) = fb (320 * i + j)) → (∀ z, z < 320 * i ∨ 320 * i + 320 ≤ z → F z = fb z) → N i - q - d < N9 → ∀ (H : Heap) (locs : List Loc), va_P D cls [(m0, .inr (3, [.ref mb, .ref ml, .ref mm, .int (nI many), .int (nI 0), .ref mk])), (mb, .inl (T 0, 1920, .inl F)), (ml, .inl (T 0, 6, .inl (upd fl i (nI ((N i) - q))))), (mm, .inl (T 0, 600, .inl fm)), (mk, .inl (T 0, 320, .inl fk))] H → va_D A [(m0, .inr (3, [.ref mb, .ref ml, .ref mm, .int (nI many), .int (nI 0), .ref mk])), (mb, .inl (T 0, 1920, .inl F)), (ml, .inl (T 0, 6, .inl (upd fl i (nI ((N i) - q))))), (mm, .inl (T 0, 600, .inl fm)), (mk, .inl (T 0, 320, .inl fk))] → va_S A s.heap H locs → ∀ ls : Array Slot, lv_has ls 5 [(0, .ref m0), (1, .int (nI i)), (2, .int (nI w7)), (3, .int (nI q)), (4, .int (nI d))] → W p l e (headSpec wsX6_remove ({ frames := 60, cells := 0, slots := 0, locals := 3000 } : Room)).room s m ([.ref m0, .int (nI i), .int (nI w7), .int (nI q)] : List Value).toArray below meth c H locs 0 0 (MQ below (QM D T A (fun u : Nat × Int32 × (Nat → Int32) × (Nat → Int32) × (Nat → Int32) × (Nat → Int32) => some (.int (nI (N i - q)))) (fun u : Nat × Int32 × (Nat → Int32) × (Nat → Int32) × (Nat → Int32) × (Nat → Int32) => u.2.1 = nI 0 ∧ MR u.2.2.2.1 u.2.2.1 (upA N i (N i - q)) (upA Bw i (delN (Bw i) w7 q))) (fun u : Nat × Int32 × (Nat → Int32) × (Nat → Int32) × (Nat → Int32) × (Nat → Int32) => [(m0, .inr (3, [.ref mb, .ref ml, .ref mm, .int (nI u.1), .int u.2.1, .ref mk])), (mb, .inl (T 0, 1920, .inl u.2.2.1)), (ml, .inl (T 0, 6, .inl u.2.2.2.1)), (mm, .inl (T 0, 600, .inl u.2.2.2.2.1)), (mk, .inl (T 0, 320, .inl u.2.2.2.2.2))])) ([.ref m0, .int (nI i), .int (nI w7), .int (nI q)] : List Value).toArray s 0 0 A) (F0 m 55 ls []) := by
    intro N9
    induction N9 with
    | zero => intro d F hd hlo hhi hfr h9; exact absurd h9 (Nat.not_lt_zero _)
    | succ N9 ih_55 =>
      intro d F hd hlo hhi hfr h9 H locs hP hD hS ls hl
      refine lv_iload hx hb dX6_remove_55 (lv_at hl 4 rfl) ?_
      refine lv_aload_n hx hb dX6_remove_57 rfl (lv_at hl 0 rfl) ?_
      refine va_get (D := D) (ci := 3) (v := .ref ml) (C := RX6) (T := TX6) (N := 6) hx hb hts hi_X6 hown hK hP 0 rfl rfl 1 (by decide) (hts _ (List.mem_of_getElem? (i := 1) rfl)) (fun _ h9 => h9) rfl dX6_remove_58 ?_
      refine lv_iload_n hx hb dX6_remove_61 rfl (lv_at hl 1 rfl) ?_
      refine ln_iald hx hb hK hP 2 0 rfl rfl ⟨by omega, by omega⟩ dX6_remove_62 ?_
      rw [show (upd fl i (nI ((N i) - q))) i = nI (N i - q) from pk_us]
      refine ln_icmp_ge (tgt := 94) hx hb ⟨by omega, by omega⟩ dX6_remove_63 (by decide) (fun c_63 => ?_) (fun c_63 => ?_)
      · refine lv_aload_n hx hb dX6_remove_94 rfl (lv_at hl 0 rfl) ?_
        refine va_get (D := D) (ci := 3) (v := .ref ml) (C := RX6) (T := TX6) (N := 6) hx hb hts hi_X6 hown hK hP 0 rfl rfl 1 (by decide) (hts _ (List.mem_of_getElem? (i := 1) rfl)) (fun _ h9 => h9) rfl dX6_remove_95 ?_
        refine lv_iload_n hx hb dX6_remove_98 rfl (lv_at hl 1 rfl) ?_
        refine ln_iald hx hb hK hP 2 0 rfl rfl ⟨by omega, by omega⟩ dX6_remove_99 ?_
        rw [show (upd fl i (nI ((N i) - q))) i = nI (N i - q) from pk_us]
        have hP9 := hP.sub (ws' := [(m0, .inr (3, [.ref mb, .ref ml, .ref mm, .int (nI many), .int (nI 0), .ref mk])), (mb, .inl (T 0, 1920, .inl F)), (ml, .inl (T 0, 6, .inl (upd fl i (nI ((N i) - q))))), (mm, .inl (T 0, 600, .inl fm)), (mk, .inl (T 0, 320, .inl fk))]) [0, 1, 2, 3, 4] rfl
        have hD9 := hD.sub (ws' := [(m0, .inr (3, [.ref mb, .ref ml, .ref mm, .int (nI many), .int (nI 0), .ref mk])), (mb, .inl (T 0, 1920, .inl F)), (ml, .inl (T 0, 6, .inl (upd fl i (nI ((N i) - q))))), (mm, .inl (T 0, 600, .inl fm)), (mk, .inl (T 0, 320, .inl fk))]) [0, 1, 2, 3, 4] (by decide) rfl
        exact W.iret (v := (nI (N i - q))) hx hb hr (fun t ht hW => ⟨⟨(many, (nI 0), F, upd fl i (nI ((N i) - q)), fm, fk), rfl, show (nI 0) = nI 0 ∧ MR (upd fl i (nI ((N i) - q))) F (upA N i (N i - q)) (upA Bw i (delN (Bw i) w7 q)) from ⟨rfl, MR_upd hMR pk_us (fun j _ hne => pk_un hne) ⟨by omega, fun j hj => by
              rw [hlo j (by omega)]; simp only [delN]
              by_cases e2 : j < w7
              · rw [if_pos e2, if_pos e2]; exact hrow.2.2 j (by omega)
              · rw [if_neg e2, if_neg e2]; exact hrow.2.2 (j + q) (by omega)⟩ hfr⟩, (by rw [ht]; exact hP9), va_K.moved hW.alike hK, hD9⟩, hS.F ht⟩) hS.2.2 dX6_remove_100
      · refine lv_aload_n hx hb dX6_remove_66 rfl (lv_at hl 0 rfl) ?_
        refine va_get (D := D) (ci := 3) (v := .ref mb) (C := RX6) (T := TX6) (N := 6) hx hb hts hi_X6 hown hK hP 0 rfl rfl 0 (by decide) (hts _ (List.mem_of_getElem? (i := 2) rfl)) (fun _ h9 => h9) rfl dX6_remove_67 ?_
        refine lv_sipush (v := (nI 320)) hx hb dX6_remove_70 (by decide +kernel) ?_
        refine lv_iload_n hx hb dX6_remove_73 rfl (lv_at hl 1 rfl) ?_
        refine ln_mul hx hb dX6_remove_74 ?_
        refine lv_iload hx hb dX6_remove_75 (lv_at hl 4 rfl) ?_
        refine ln_add hx hb dX6_remove_77 ?_
        refine lv_aload_n hx hb dX6_remove_78 rfl (lv_at hl 0 rfl) ?_
        refine lv_iload_n hx hb dX6_remove_79 rfl (lv_at hl 1 rfl) ?_
        refine lv_iload hx hb dX6_remove_80 (lv_at hl 4 rfl) ?_
        refine lv_iload_n hx hb dX6_remove_82 rfl (lv_at hl 3 rfl) ?_
        refine ln_add hx hb dX6_remove_83 ?_
        refine ro_V (As := [.int (nI i), .int (nI (d + q))]) (rest := [.int (nI ((320 * i) + d)), .ref mb]) (wc := [(m0, .inr (3, [.ref mb, .ref ml, .ref mm, .int (nI many), .int (nI 0), .ref mk])), (mb, .inl (T 0, 1920, .inl F))]) (r := .int (F (320 * i + (d + q)))) ⟨hx, hb, hml, hown, hts⟩ (c_X6_at l D T g m0 mb ml mm mk many (nI 0) F i (d + q) (by omega)) (cwV 2 hts gX6_remove_X6_at rfl rfl rfl (by decide +kernel) ⟨Nat.le_of_ble_eq_true rfl, Nat.le_of_ble_eq_true rfl⟩) (va_recv hK hP (ci := 3) (q0 := 0) rfl rfl) hP hK hG hS [0, 1] rfl ⟨Nat.zero_le _, Nat.zero_le _⟩ rfl hl.1 (Nat.le_of_ble_eq_true rfl) dX6_remove_84 rfl ?_
        refine ln_iast hx hb hK hP hD hS 1 0 rfl rfl ⟨by omega, by omega⟩ dX6_remove_87 (fun H locs hP hD hS => ?_)
        have hP : va_P D cls [(m0, .inr (3, [.ref mb, .ref ml, .ref mm, .int (nI many), .int (nI 0), .ref mk])), (mb, .inl (T 0, 1920, .inl (upd F ((320 * i) + d) (F (320 * i + (d + q)))))), (ml, .inl (T 0, 6, .inl (upd fl i (nI ((N i) - q))))), (mm, .inl (T 0, 600, .inl fm)), (mk, .inl (T 0, 320, .inl fk))] H := hP
        have hD : va_D A [(m0, .inr (3, [.ref mb, .ref ml, .ref mm, .int (nI many), .int (nI 0), .ref mk])), (mb, .inl (T 0, 1920, .inl (upd F ((320 * i) + d) (F (320 * i + (d + q)))))), (ml, .inl (T 0, 6, .inl (upd fl i (nI ((N i) - q))))), (mm, .inl (T 0, 600, .inl fm)), (mk, .inl (T 0, 320, .inl fk))] := hD
        refine lv_iinc (v := (nI (d + 1))) (lv' := [(4, .int (nI (d + 1))), (0, .ref m0), (1, .int (nI i)), (2, .int (nI w7)), (3, .int (nI q))]) hx hb dX6_remove_88 hl (k := 4) rfl (ni_inc1 _) (by decide) rfl (fun ls hl => ?_)
        refine lv_goto (tgt := 55) hx hb dX6_remove_91 (by decide) ?_
        exact ih_55 (d + 1) (upd F ((320 * i) + d) (F (320 * i + (d + q)))) (by omega) (fun j hj => by
              by_cases e9 : j = d
              · subst e9; rw [pk_us, if_neg (by omega)]; exact hhi _ (by omega)
              · rw [pk_un (by omega)]; exact hlo j (by omega)) (fun j hj => (pk_un (by omega)).trans (hhi j (by omega))) (fun z hz => (pk_un (by omega)).trans (hfr z hz)) (by omega) _ _ (hP.sub (ws' := [(m0, .inr (3, [.ref mb, .ref ml, .ref mm, .int (nI many), .int (nI 0), .ref mk])), (mb, .inl (T 0, 1920, .inl (upd F ((320 * i) + d) (F (320 * i + (d + q)))))), (ml, .inl (T 0, 6, .inl (upd fl i (nI ((N i) - q))))), (mm, .inl (T 0, 600, .inl fm)), (mk, .inl (T 0, 320, .inl fk))]) [0, 1, 2, 3, 4] rfl) (hD.sub (ws' := [(m0, .inr (3, [.ref mb, .ref ml, .ref mm, .int (nI many), .int (nI 0), .ref mk])), (mb, .inl (T 0, 1920, .inl (upd F ((320 * i) + d) (F (320 * i + (d + q)))))), (ml, .inl (T 0, 6, .inl (upd fl i (nI ((N i) - q))))), (mm, .inl (T 0, 600, .inl fm)), (mk, .inl (T 0, 320, .inl fk))]) [0, 1, 2, 3, 4] (by decide) rfl) hS ls (lv_sub hl [1, 2, 3, 4, 0] rfl)
  exact K2 _ w7 fb (by omega) (fun j hj => by rw [if_pos hj]) (fun _ _ => rfl) (fun _ _ => rfl) (Nat.lt_succ_self _) H locs (hP.sub (ws' := [(m0, .inr (3, [.ref mb, .ref ml, .ref mm, .int (nI many), .int (nI 0), .ref mk])), (mb, .inl (T 0, 1920, .inl fb)), (ml, .inl (T 0, 6, .inl (upd fl i (nI ((N i) - q))))), (mm, .inl (T 0, 600, .inl fm)), (mk, .inl (T 0, 320, .inl fk))]) [4, 0, 1, 2, 3] rfl) (hD.sub (ws' := [(m0, .inr (3, [.ref mb, .ref ml, .ref mm, .int (nI many), .int (nI 0), .ref mk])), (mb, .inl (T 0, 1920, .inl fb)), (ml, .inl (T 0, 6, .inl (upd fl i (nI ((N i) - q))))), (mm, .inl (T 0, 600, .inl fm)), (mk, .inl (T 0, 320, .inl fk))]) [4, 0, 1, 2, 3] (by decide) rfl) hS ls (lv_sub hl [1, 2, 3, 4, 0] rfl)
