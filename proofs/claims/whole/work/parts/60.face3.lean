theorem tl_good {k n : Nat} {b : Nat → Nat} (h : wroB k n b = false) (h2 : untB k n b = false) : tlI k n b = nI (lF k n b * 6 / 8) := (tl_r h h2).symm
theorem tl_wrong {k n : Nat} {b : Nat → Nat} (h : wroB k n b = true) : tlI k n b = -1 := (tl_w h).symm
theorem tl_unt {k n : Nat} {b : Nat → Nat} (h : wroB k n b = false) (h2 : untB k n b = true) : tlI k n b = -2 := (tl_u h h2).symm
theorem nI_nm {n : Nat} (h : n < 2 ^ 31) : ¬ nI n = -1 ∧ ¬ nI n = -2 := ⟨fun z => nI_pos h (by rw [z]; decide), fun z => nI_pos h (by rw [z]; decide)⟩
theorem l9_le {k n : Nat} {b : Nat → Nat} (hn : n ≤ 440) : lF k n b * 6 / 8 ≤ n := by have := Nat.le_trans (lF_le k n b) (fF_le n b); omega
theorem lvL_stay {k : Nat} : ∀ {L : Nat}, L ≤ capL k → lvL k L = k
  | 0, _ => rfl
  | L + 1, h => by
    have ih := lvL_stay (k := k) (L := L) (by omega)
    rw [lvL_n (by rw [ih]; omega), ih]
set_option maxHeartbeats 4000000 in
set_option maxRecDepth 100000 in
/-- reads a row that is right -/
theorem c_X5_readOr (l : Launch) (D : va_G) (T : Nat → ClassId) (g : Nat → Nat) (sz : Nat) (lo : Nat) (ra : Nat) (d0 : Nat) (b0 : Nat) (t0 : Nat) (r0 : Nat) (rd : Nat → Nat) (fr : Nat) (fq : Nat) (rf : Nat → Int32) (rn : Nat) (B0 : Int32) (hd0 : Int32) (h0 : Nat) (q0 : Nat) (f : Nat → Int32) (n : Nat) (b : Nat → Nat) (hb9 : RB f n b) (k : Nat) (hk : k < 3) (hw : wroB k n b = false) (hu : untB k n b = false) : MU l yX5_readOrRefuse wsX5_readOrRefuse ({ frames := 4, cells := 0, slots := 0, locals := 94 } : Room) D T g [.ref lo, .ref h0, .ref (g k)] [(lo, .inr (2, [.ref ra, .ref d0, .ref b0, .ref t0, .ref r0])), (ra, .inl (T 2, 6, .inr (.inr (.inr (.inr (fun j => some (rd j))))))), (r0, .inr (1, [.ref fr, .int B0, .int hd0])), (fr, .inr (0, [.ref fq, .int (nI rn)])), (fq, .inl (T 0, 440, .inl rf)), (h0, .inr (0, [.ref q0, .int (nI n)])), (q0, .inl (T 0, 440, .inl f))] sz (fun u : (Nat → Int32) × Nat × Int32 × Int32 => none) (fun u : (Nat → Int32) × Nat × Int32 × Int32 => u.2.1 = lF k n b * 6 / 8 ∧ RB u.1 u.2.1 (outB (lwF k n b))) (fun u : (Nat → Int32) × Nat × Int32 × Int32 => [(lo, .inr (2, [.ref ra, .ref d0, .ref b0, .ref t0, .ref r0])), (ra, .inl (T 2, 6, .inr (.inr (.inr (.inr (fun j => some (rd j))))))), (r0, .inr (1, [.ref fr, .int u.2.2.1, .int u.2.2.2])), (fr, .inr (0, [.ref fq, .int (nI u.2.1)])), (fq, .inl (T 0, 440, .inl u.1)), (h0, .inr (0, [.ref q0, .int (nI n)])), (q0, .inl (T 0, 440, .inl f))]) 0 0 := by
  refine Met.ofW (cc := cX5_readOrRefuse) (maxL := 3) (ret := none) (by decide) rfl ?_
  intro p e s m args below meth c s₁ B hml hv
  obtain ⟨rfl, hsz, hP, hK, hD0, hG⟩ := hv
  have hx := B.exec
  have hb := B.bytes
  have hr := B.returns
  have hts := atoms_spec (ws := wsX5_readOrRefuse) B.pre
  have hown : s.vm.findClass RX5 = some m.cls := findClass_of_methodNamed B.named
  have hlocks := B.notSynchronized
  have hi_X5 : ∀ w ∈ wsX50, w ∈ wsX5_readOrRefuse := by decide +kernel
  subst hsz
  have hD := hD0.self (sz := s.heap.size)
  generalize hAe : va_A [(lo, .inr (2, [.ref ra, .ref d0, .ref b0, .ref t0, .ref r0])), (ra, .inl (T 2, 6, .inr (.inr (.inr (.inr (fun j => some (rd j))))))), (r0, .inr (1, [.ref fr, .int B0, .int hd0])), (fr, .inr (0, [.ref fq, .int (nI rn)])), (fq, .inl (T 0, 440, .inl rf)), (h0, .inr (0, [.ref q0, .int (nI n)])), (q0, .inl (T 0, 440, .inl f))] s.heap.size = A at hD hG ⊢
  have hA : ∀ q : Nat, s.heap.size ≤ q → A q := fun q h => by rw [← hAe]; exact Or.inr h
  have hS : va_S A s.heap s.heap [] := va_S.rf
  have hP : va_P D cls [(lo, .inr (2, [.ref ra, .ref d0, .ref b0, .ref t0, .ref r0])), (ra, .inl (T 2, 6, .inr (.inr (.inr (.inr (fun j => some (rd j))))))), (r0, .inr (1, [.ref fr, .int B0, .int hd0])), (fr, .inr (0, [.ref fq, .int (nI rn)])), (fq, .inl (T 0, 440, .inl rf)), (h0, .inr (0, [.ref q0, .int (nI n)])), (q0, .inl (T 0, 440, .inl f))] s.heap := hP
  have hl := lv_entry ([.ref lo, .ref h0, .ref (g k)]) (n := 3) (Nat.le_of_ble_eq_true rfl)
  rw [lg_entry_eq]
  generalize (lg_sl ([.ref lo, .ref h0, .ref (g k)]) ++ List.replicate (3 - (lg_sl ([.ref lo, .ref h0, .ref (g k)])).length) Slot.unset).toArray = ls at hl ⊢
  have hl : lv_has ls 3 [(0, .ref lo), (1, .ref h0), (2, .ref (g k))] := hl
  have hn := hb9.1
  have hz9 := l9_le (k := k) (b := b) hn
  have ha9 := ac_yes hw hu
  refine lv_aload_n hx hb dX5_readOrRefuse_0 rfl (lv_at hl 1 rfl) ?_
  refine lv_aload_n hx hb dX5_readOrRefuse_1 rfl (lv_at hl 2 rfl) ?_
  refine ro_S (As := [.ref h0, .ref (g k)]) (rest := []) (wc := [(h0, .inr (0, [.ref q0, .int (nI n)])), (q0, .inl (T 0, 440, .inl f))]) (r := .int (tlI k n b)) ⟨hx, hb, hml, hown, hts⟩ (c_X3_tell l D T g h0 q0 f n k b (hb9) hk) (va_cwS 2 hts gX5_readOrRefuse_X3_tell rfl rfl rfl (by decide +kernel) ⟨Nat.le_of_ble_eq_true rfl, Nat.le_of_ble_eq_true rfl⟩) hP hK hG hS [5, 6] rfl ⟨Nat.zero_le _, Nat.zero_le _⟩ rfl hl.1 (Nat.le_of_ble_eq_true rfl) dX5_readOrRefuse_2 rfl ?_
  rw [tl_good hw hu]
  refine lv_bipush (v := (-2)) hx hb dX5_readOrRefuse_5 (by decide +kernel) ?_
  refine lv_icmp_ne (tgt := 20) hx hb dX5_readOrRefuse_7 (by decide) (fun _ => ?_) (fun q9 => absurd q9 ((nI_nm (by omega)).2))
  refine lv_aload_n hx hb dX5_readOrRefuse_20 rfl (lv_at hl 0 rfl) ?_
  refine va_get (D := D) (ci := 2) (v := .ref r0) (C := RX5) (T := TX5) (N := 5) hx hb hts hi_X5 hown hK hP 0 rfl rfl 4 (by decide) (hts _ (List.mem_of_getElem? (i := 5) rfl)) (fun _ h9 => h9) rfl dX5_readOrRefuse_21 ?_
  refine lv_aload_n hx hb dX5_readOrRefuse_24 rfl (lv_at hl 1 rfl) ?_
  refine lv_aload_n hx hb dX5_readOrRefuse_25 rfl (lv_at hl 2 rfl) ?_
  refine mu_V (As := [.ref h0, .ref (g k)]) (rest := []) (wc := [(r0, .inr (1, [.ref fr, .int B0, .int hd0])), (fr, .inr (0, [.ref fq, .int (nI rn)])), (fq, .inl (T 0, 440, .inl rf)), (h0, .inr (0, [.ref q0, .int (nI n)])), (q0, .inl (T 0, 440, .inl f))]) (wr := [(lo, .inr (2, [.ref ra, .ref d0, .ref b0, .ref t0, .ref r0])), (ra, .inl (T 2, 6, .inr (.inr (.inr (.inr (fun j => some (rd j)))))))]) ⟨hx, hb, hml, hown, hts⟩ (c_X1_accepts l D T g s.heap.size r0 fr fq rf rn B0 hd0 h0 q0 f n k b (hb9) hk) (cwV 2 hts gX5_readOrRefuse_X1_accepts rfl rfl rfl (by decide +kernel) ⟨Nat.le_of_ble_eq_true rfl, Nat.le_of_ble_eq_true rfl⟩) (va_recv hK hP (ci := 1) (q0 := 2) rfl rfl) hP hD hK hG hS hA [2, 3, 4, 5, 6] [0, 1] rfl (by decide) rfl (by decide) (by decide) ⟨Nat.le_of_ble_eq_true rfl, Nat.le_of_ble_eq_true rfl⟩ rfl hl.1 (Nat.le_of_ble_eq_true rfl) dX5_readOrRefuse_26 rfl (fun u H locs hq5 hP hD hS => ?_)
  obtain ⟨F2_1, nF2_2, B2_3, hd2_4⟩ := u
  have hP : va_P D cls [(lo, .inr (2, [.ref ra, .ref d0, .ref b0, .ref t0, .ref r0])), (ra, .inl (T 2, 6, .inr (.inr (.inr (.inr (fun j => some (rd j))))))), (r0, .inr (1, [.ref fr, .int B2_3, .int hd2_4])), (fr, .inr (0, [.ref fq, .int (nI nF2_2)])), (fq, .inl (T 0, 440, .inl F2_1)), (h0, .inr (0, [.ref q0, .int (nI n)])), (q0, .inl (T 0, 440, .inl f))] H := hP
  have hD : va_D A [(lo, .inr (2, [.ref ra, .ref d0, .ref b0, .ref t0, .ref r0])), (ra, .inl (T 2, 6, .inr (.inr (.inr (.inr (fun j => some (rd j))))))), (r0, .inr (1, [.ref fr, .int B2_3, .int hd2_4])), (fr, .inr (0, [.ref fq, .int (nI nF2_2)])), (fq, .inl (T 0, 440, .inl F2_1)), (h0, .inr (0, [.ref q0, .int (nI n)])), (q0, .inl (T 0, 440, .inl f))] := hD
  have hp1 : nF2_2 ≤ 440 ∧ (acB k n b = true → nF2_2 = cnF k n b ∧ RB F2_1 nF2_2 (outB (lwF k n b))) := hq5
  refine W.eq (g2 := F0 m 29 ls [.int (bI (acB k n b))]) rfl ?_
  refine lv_if_ne (tgt := 42) hx hb dX5_readOrRefuse_29 (by decide) (fun _ => ?_) (fun q9 => absurd q9 (bI_nz.mpr ha9))
  have hP9 := hP.sub (ws' := [(lo, .inr (2, [.ref ra, .ref d0, .ref b0, .ref t0, .ref r0])), (ra, .inl (T 2, 6, .inr (.inr (.inr (.inr (fun j => some (rd j))))))), (r0, .inr (1, [.ref fr, .int B2_3, .int hd2_4])), (fr, .inr (0, [.ref fq, .int (nI nF2_2)])), (fq, .inl (T 0, 440, .inl F2_1)), (h0, .inr (0, [.ref q0, .int (nI n)])), (q0, .inl (T 0, 440, .inl f))]) [0, 1, 2, 3, 4, 5, 6] rfl
  have hD9 := hD.sub (ws' := [(lo, .inr (2, [.ref ra, .ref d0, .ref b0, .ref t0, .ref r0])), (ra, .inl (T 2, 6, .inr (.inr (.inr (.inr (fun j => some (rd j))))))), (r0, .inr (1, [.ref fr, .int B2_3, .int hd2_4])), (fr, .inr (0, [.ref fq, .int (nI nF2_2)])), (fq, .inl (T 0, 440, .inl F2_1)), (h0, .inr (0, [.ref q0, .int (nI n)])), (q0, .inl (T 0, 440, .inl f))]) [0, 1, 2, 3, 4, 5, 6] (by decide) rfl
  exact W.vret hx hb hr (fun t ht hW => ⟨⟨(F2_1, nF2_2, B2_3, hd2_4), rfl, show nF2_2 = lF k n b * 6 / 8 ∧ RB F2_1 nF2_2 (outB (lwF k n b)) from ⟨by rw [(hp1.2 ha9).1, cn_lF], (hp1.2 ha9).2⟩, (by rw [ht]; exact hP9), va_K.moved hW.alike hK, hD9⟩, hS.F ht⟩) hS.2.2 dX5_readOrRefuse_42
set_option maxHeartbeats 4000000 in
set_option maxRecDepth 100000 in
/-- nothing is told -/
theorem c_X5_readOr_u (l : Launch) (D : va_G) (T : Nat → ClassId) (g : Nat → Nat) (sz : Nat) (hl9 : l.stackTraces = false) (lo : Nat) (ra : Nat) (d0 : Nat) (b0 : Nat) (t0 : Nat) (r0 : Nat) (rd : Nat → Nat) (h0 : Nat) (q0 : Nat) (f : Nat → Int32) (n : Nat) (b : Nat → Nat) (hb9 : RB f n b) (k : Nat) (hk : k < 3) (hw : wroB k n b = false) (hu : untB k n b = true) : TX l yX5_readOrRefuse wsX5_readOrRefuse ({ frames := 6, cells := 1, slots := 6, locals := 94 } : Room) D T g [.ref lo, .ref h0, .ref (g k)] [(lo, .inr (2, [.ref ra, .ref d0, .ref b0, .ref t0, .ref r0])), (ra, .inl (T 2, 6, .inr (.inr (.inr (.inr (fun j => some (rd j))))))), (h0, .inr (0, [.ref q0, .int (nI n)])), (q0, .inl (T 0, 440, .inl f))] sz "java/lang/UnsupportedOperationException" (fun u : Unit => True) (fun u : Unit => [(lo, .inr (2, [.ref ra, .ref d0, .ref b0, .ref t0, .ref r0])), (ra, .inl (T 2, 6, .inr (.inr (.inr (.inr (fun j => some (rd j))))))), (h0, .inr (0, [.ref q0, .int (nI n)])), (q0, .inl (T 0, 440, .inl f))]) 1 6 := by
  refine vx_ofW (cc := cX5_readOrRefuse) (maxL := 3) (ret := none) (by decide) rfl ?_
  intro p e s m args below meth c s₁ B hml ht hv
  obtain ⟨rfl, hsz, hP, hK, hD0, hG⟩ := hv
  have hx := B.exec
  have hb := B.bytes
  have hr := B.returns
  have hts := atoms_spec (ws := wsX5_readOrRefuse) B.pre
  have hown : s.vm.findClass RX5 = some m.cls := findClass_of_methodNamed B.named
  have hlocks := B.notSynchronized
  subst hsz
  have hD := hD0.self (sz := s.heap.size)
  generalize hAe : va_A [(lo, .inr (2, [.ref ra, .ref d0, .ref b0, .ref t0, .ref r0])), (ra, .inl (T 2, 6, .inr (.inr (.inr (.inr (fun j => some (rd j))))))), (h0, .inr (0, [.ref q0, .int (nI n)])), (q0, .inl (T 0, 440, .inl f))] s.heap.size = A at hD hG ⊢
  have hA : ∀ q : Nat, s.heap.size ≤ q → A q := fun q h => by rw [← hAe]; exact Or.inr h
  have hS : va_S A s.heap s.heap [] := va_S.rf
  have hP : va_P D cls [(lo, .inr (2, [.ref ra, .ref d0, .ref b0, .ref t0, .ref r0])), (ra, .inl (T 2, 6, .inr (.inr (.inr (.inr (fun j => some (rd j))))))), (h0, .inr (0, [.ref q0, .int (nI n)])), (q0, .inl (T 0, 440, .inl f))] s.heap := hP
  have hl := lv_entry ([.ref lo, .ref h0, .ref (g k)]) (n := 3) (Nat.le_of_ble_eq_true rfl)
  rw [lg_entry_eq]
  generalize (lg_sl ([.ref lo, .ref h0, .ref (g k)]) ++ List.replicate (3 - (lg_sl ([.ref lo, .ref h0, .ref (g k)])).length) Slot.unset).toArray = ls at hl ⊢
  have hl : lv_has ls 3 [(0, .ref lo), (1, .ref h0), (2, .ref (g k))] := hl
  refine lv_aload_n hx hb dX5_readOrRefuse_0 rfl (lv_at hl 1 rfl) ?_
  refine lv_aload_n hx hb dX5_readOrRefuse_1 rfl (lv_at hl 2 rfl) ?_
  refine ro_S (As := [.ref h0, .ref (g k)]) (rest := []) (wc := [(h0, .inr (0, [.ref q0, .int (nI n)])), (q0, .inl (T 0, 440, .inl f))]) (r := .int (tlI k n b)) ⟨hx, hb, hml, hown, hts⟩ (c_X3_tell l D T g h0 q0 f n k b (hb9) hk) (va_cwS 2 hts gX5_readOrRefuse_X3_tell rfl rfl rfl (by decide +kernel) ⟨Nat.le_of_ble_eq_true rfl, Nat.le_of_ble_eq_true rfl⟩) hP hK hG hS [2, 3] rfl ⟨Nat.zero_le _, Nat.zero_le _⟩ rfl hl.1 (Nat.le_of_ble_eq_true rfl) dX5_readOrRefuse_2 rfl ?_
  rw [tl_unt hw hu]
  refine lv_bipush (v := (-2)) hx hb dX5_readOrRefuse_5 (by decide +kernel) ?_
  refine lv_icmp_ne (tgt := 20) hx hb dX5_readOrRefuse_7 (by decide) (fun q9 => absurd (rfl) q9) (fun _ => ?_)
  refine tx_throw (T := T) (D := D) (g := g) (text := "nothing is told of the row") (is := 217) (ik := 215) (ic := 219) (E := "java/lang/UnsupportedOperationException") (ws := [(lo, .inr (2, [.ref ra, .ref d0, .ref b0, .ref t0, .ref r0])), (ra, .inl (T 2, 6, .inr (.inr (.inr (.inr (fun j => some (rd j))))))), (h0, .inr (0, [.ref q0, .int (nI n)])), (q0, .inl (T 0, 440, .inl f))]) hl9 hx hb hown hts (by decide) (List.mem_of_getElem? (i := 1) rfl) (List.mem_of_getElem? (i := 2) rfl) (fun _ h => List.mem_cons_of_mem _ (List.mem_append_left _ (List.mem_append_left _ (List.mem_append_right _ h)))) (by decide) hP hD hK hG hS (hl.1.trans hml.symm) dX5_readOrRefuse_10 dX5_readOrRefuse_13 dX5_readOrRefuse_14 dX5_readOrRefuse_16 dX5_readOrRefuse_19 ht (Nat.le_of_ble_eq_true rfl) (Nat.le_of_ble_eq_true rfl) (Nat.le_of_ble_eq_true rfl) (Nat.le_of_ble_eq_true rfl) hlocks (fun t hMA hFF => ?_) (Nat.le_of_ble_eq_true rfl) (Nat.le_of_ble_eq_true rfl)
  obtain ⟨hP, hK9, hD⟩ := hMA
  exact ⟨rfl, ⟨(), trivial, hP.sub (ws' := [(lo, .inr (2, [.ref ra, .ref d0, .ref b0, .ref t0, .ref r0])), (ra, .inl (T 2, 6, .inr (.inr (.inr (.inr (fun j => some (rd j))))))), (h0, .inr (0, [.ref q0, .int (nI n)])), (q0, .inl (T 0, 440, .inl f))]) [0, 1, 2, 3] rfl, hK9, hD.sub (ws' := [(lo, .inr (2, [.ref ra, .ref d0, .ref b0, .ref t0, .ref r0])), (ra, .inl (T 2, 6, .inr (.inr (.inr (.inr (fun j => some (rd j))))))), (h0, .inr (0, [.ref q0, .int (nI n)])), (q0, .inl (T 0, 440, .inl f))]) [0, 1, 2, 3] (by decide) rfl⟩, hFF⟩
set_option maxHeartbeats 4000000 in
set_option maxRecDepth 100000 in
/-- the row is refused -/
theorem c_X5_readOr_w (l : Launch) (D : va_G) (T : Nat → ClassId) (g : Nat → Nat) (sz : Nat) (hl9 : l.stackTraces = false) (lo : Nat) (ra : Nat) (d0 : Nat) (b0 : Nat) (t0 : Nat) (r0 : Nat) (rd : Nat → Nat) (fr : Nat) (fq : Nat) (rf : Nat → Int32) (rn : Nat) (B0 : Int32) (hd0 : Int32) (h0 : Nat) (q0 : Nat) (f : Nat → Int32) (n : Nat) (b : Nat → Nat) (hb9 : RB f n b) (k : Nat) (hk : k < 3) (hw : wroB k n b = true) : TX l yX5_readOrRefuse wsX5_readOrRefuse ({ frames := 6, cells := 1, slots := 6, locals := 94 } : Room) D T g [.ref lo, .ref h0, .ref (g k)] [(lo, .inr (2, [.ref ra, .ref d0, .ref b0, .ref t0, .ref r0])), (ra, .inl (T 2, 6, .inr (.inr (.inr (.inr (fun j => some (rd j))))))), (r0, .inr (1, [.ref fr, .int B0, .int hd0])), (fr, .inr (0, [.ref fq, .int (nI rn)])), (fq, .inl (T 0, 440, .inl rf)), (h0, .inr (0, [.ref q0, .int (nI n)])), (q0, .inl (T 0, 440, .inl f))] sz "java/lang/IllegalArgumentException" (fun u : (Nat → Int32) × Nat × Int32 × Int32 => True) (fun u : (Nat → Int32) × Nat × Int32 × Int32 => [(lo, .inr (2, [.ref ra, .ref d0, .ref b0, .ref t0, .ref r0])), (ra, .inl (T 2, 6, .inr (.inr (.inr (.inr (fun j => some (rd j))))))), (r0, .inr (1, [.ref fr, .int u.2.2.1, .int u.2.2.2])), (fr, .inr (0, [.ref fq, .int (nI u.2.1)])), (fq, .inl (T 0, 440, .inl u.1)), (h0, .inr (0, [.ref q0, .int (nI n)])), (q0, .inl (T 0, 440, .inl f))]) 1 6 := by
  refine vx_ofW (cc := cX5_readOrRefuse) (maxL := 3) (ret := none) (by decide) rfl ?_
  intro p e s m args below meth c s₁ B hml ht hv
  obtain ⟨rfl, hsz, hP, hK, hD0, hG⟩ := hv
  have hx := B.exec
  have hb := B.bytes
  have hr := B.returns
  have hts := atoms_spec (ws := wsX5_readOrRefuse) B.pre
  have hown : s.vm.findClass RX5 = some m.cls := findClass_of_methodNamed B.named
  have hlocks := B.notSynchronized
  have hi_X5 : ∀ w ∈ wsX50, w ∈ wsX5_readOrRefuse := by decide +kernel
  subst hsz
  have hD := hD0.self (sz := s.heap.size)
  generalize hAe : va_A [(lo, .inr (2, [.ref ra, .ref d0, .ref b0, .ref t0, .ref r0])), (ra, .inl (T 2, 6, .inr (.inr (.inr (.inr (fun j => some (rd j))))))), (r0, .inr (1, [.ref fr, .int B0, .int hd0])), (fr, .inr (0, [.ref fq, .int (nI rn)])), (fq, .inl (T 0, 440, .inl rf)), (h0, .inr (0, [.ref q0, .int (nI n)])), (q0, .inl (T 0, 440, .inl f))] s.heap.size = A at hD hG ⊢
  have hA : ∀ q : Nat, s.heap.size ≤ q → A q := fun q h => by rw [← hAe]; exact Or.inr h
  have hS : va_S A s.heap s.heap [] := va_S.rf
  have hP : va_P D cls [(lo, .inr (2, [.ref ra, .ref d0, .ref b0, .ref t0, .ref r0])), (ra, .inl (T 2, 6, .inr (.inr (.inr (.inr (fun j => some (rd j))))))), (r0, .inr (1, [.ref fr, .int B0, .int hd0])), (fr, .inr (0, [.ref fq, .int (nI rn)])), (fq, .inl (T 0, 440, .inl rf)), (h0, .inr (0, [.ref q0, .int (nI n)])), (q0, .inl (T 0, 440, .inl f))] s.heap := hP
  have hl := lv_entry ([.ref lo, .ref h0, .ref (g k)]) (n := 3) (Nat.le_of_ble_eq_true rfl)
  rw [lg_entry_eq]
  generalize (lg_sl ([.ref lo, .ref h0, .ref (g k)]) ++ List.replicate (3 - (lg_sl ([.ref lo, .ref h0, .ref (g k)])).length) Slot.unset).toArray = ls at hl ⊢
  have hl : lv_has ls 3 [(0, .ref lo), (1, .ref h0), (2, .ref (g k))] := hl
  refine lv_aload_n hx hb dX5_readOrRefuse_0 rfl (lv_at hl 1 rfl) ?_
  refine lv_aload_n hx hb dX5_readOrRefuse_1 rfl (lv_at hl 2 rfl) ?_
  refine ro_S (As := [.ref h0, .ref (g k)]) (rest := []) (wc := [(h0, .inr (0, [.ref q0, .int (nI n)])), (q0, .inl (T 0, 440, .inl f))]) (r := .int (tlI k n b)) ⟨hx, hb, hml, hown, hts⟩ (c_X3_tell l D T g h0 q0 f n k b (hb9) hk) (va_cwS 2 hts gX5_readOrRefuse_X3_tell rfl rfl rfl (by decide +kernel) ⟨Nat.le_of_ble_eq_true rfl, Nat.le_of_ble_eq_true rfl⟩) hP hK hG hS [5, 6] rfl ⟨Nat.zero_le _, Nat.zero_le _⟩ rfl hl.1 (Nat.le_of_ble_eq_true rfl) dX5_readOrRefuse_2 rfl ?_
  rw [tl_wrong hw]
  refine lv_bipush (v := (-2)) hx hb dX5_readOrRefuse_5 (by decide +kernel) ?_
  refine lv_icmp_ne (tgt := 20) hx hb dX5_readOrRefuse_7 (by decide) (fun _ => ?_) (fun q9 => absurd q9 (by decide))
  refine lv_aload_n hx hb dX5_readOrRefuse_20 rfl (lv_at hl 0 rfl) ?_
  refine va_get (D := D) (ci := 2) (v := .ref r0) (C := RX5) (T := TX5) (N := 5) hx hb hts hi_X5 hown hK hP 0 rfl rfl 4 (by decide) (hts _ (List.mem_of_getElem? (i := 5) rfl)) (fun _ h9 => h9) rfl dX5_readOrRefuse_21 ?_
  refine lv_aload_n hx hb dX5_readOrRefuse_24 rfl (lv_at hl 1 rfl) ?_
  refine lv_aload_n hx hb dX5_readOrRefuse_25 rfl (lv_at hl 2 rfl) ?_
  refine mu_V (As := [.ref h0, .ref (g k)]) (rest := []) (wc := [(r0, .inr (1, [.ref fr, .int B0, .int hd0])), (fr, .inr (0, [.ref fq, .int (nI rn)])), (fq, .inl (T 0, 440, .inl rf)), (h0, .inr (0, [.ref q0, .int (nI n)])), (q0, .inl (T 0, 440, .inl f))]) (wr := [(lo, .inr (2, [.ref ra, .ref d0, .ref b0, .ref t0, .ref r0])), (ra, .inl (T 2, 6, .inr (.inr (.inr (.inr (fun j => some (rd j)))))))]) ⟨hx, hb, hml, hown, hts⟩ (c_X1_accepts l D T g s.heap.size r0 fr fq rf rn B0 hd0 h0 q0 f n k b (hb9) hk) (cwV 2 hts gX5_readOrRefuse_X1_accepts rfl rfl rfl (by decide +kernel) ⟨Nat.le_of_ble_eq_true rfl, Nat.le_of_ble_eq_true rfl⟩) (va_recv hK hP (ci := 1) (q0 := 2) rfl rfl) hP hD hK hG hS hA [2, 3, 4, 5, 6] [0, 1] rfl (by decide) rfl (by decide) (by decide) ⟨Nat.le_of_ble_eq_true rfl, Nat.le_of_ble_eq_true rfl⟩ rfl hl.1 (Nat.le_of_ble_eq_true rfl) dX5_readOrRefuse_26 rfl (fun u H locs hq5 hP hD hS => ?_)
  obtain ⟨F2_1, nF2_2, B2_3, hd2_4⟩ := u
  have hP : va_P D cls [(lo, .inr (2, [.ref ra, .ref d0, .ref b0, .ref t0, .ref r0])), (ra, .inl (T 2, 6, .inr (.inr (.inr (.inr (fun j => some (rd j))))))), (r0, .inr (1, [.ref fr, .int B2_3, .int hd2_4])), (fr, .inr (0, [.ref fq, .int (nI nF2_2)])), (fq, .inl (T 0, 440, .inl F2_1)), (h0, .inr (0, [.ref q0, .int (nI n)])), (q0, .inl (T 0, 440, .inl f))] H := hP
  have hD : va_D A [(lo, .inr (2, [.ref ra, .ref d0, .ref b0, .ref t0, .ref r0])), (ra, .inl (T 2, 6, .inr (.inr (.inr (.inr (fun j => some (rd j))))))), (r0, .inr (1, [.ref fr, .int B2_3, .int hd2_4])), (fr, .inr (0, [.ref fq, .int (nI nF2_2)])), (fq, .inl (T 0, 440, .inl F2_1)), (h0, .inr (0, [.ref q0, .int (nI n)])), (q0, .inl (T 0, 440, .inl f))] := hD
  have hp1 : nF2_2 ≤ 440 ∧ (acB k n b = true → nF2_2 = cnF k n b ∧ RB F2_1 nF2_2 (outB (lwF k n b))) := hq5
  refine W.eq (g2 := F0 m 29 ls [.int (bI (acB k n b))]) rfl ?_
  refine lv_if_ne (tgt := 42) hx hb dX5_readOrRefuse_29 (by decide) (fun q9 => absurd (bI_z.mpr (ac_no hw)) q9) (fun _ => ?_)
  refine tx_throw (T := T) (D := D) (g := g) (text := "the row is refused") (is := 220) (ik := 55) (ic := 59) (E := "java/lang/IllegalArgumentException") (ws := [(lo, .inr (2, [.ref ra, .ref d0, .ref b0, .ref t0, .ref r0])), (ra, .inl (T 2, 6, .inr (.inr (.inr (.inr (fun j => some (rd j))))))), (r0, .inr (1, [.ref fr, .int B2_3, .int hd2_4])), (fr, .inr (0, [.ref fq, .int (nI nF2_2)])), (fq, .inl (T 0, 440, .inl F2_1)), (h0, .inr (0, [.ref q0, .int (nI n)])), (q0, .inl (T 0, 440, .inl f))]) hl9 hx hb hown hts (by decide) (List.mem_of_getElem? (i := 3) rfl) (List.mem_of_getElem? (i := 4) rfl) (fun _ h => List.mem_cons_of_mem _ (List.mem_append_left _ (List.mem_append_right _ h))) (by decide) hP hD hK hG hS (hl.1.trans hml.symm) dX5_readOrRefuse_32 dX5_readOrRefuse_35 dX5_readOrRefuse_36 dX5_readOrRefuse_38 dX5_readOrRefuse_41 ht (Nat.le_of_ble_eq_true rfl) (Nat.le_of_ble_eq_true rfl) (Nat.le_of_ble_eq_true rfl) (Nat.le_of_ble_eq_true rfl) hlocks (fun t hMA hFF => ?_) (Nat.le_of_ble_eq_true rfl) (Nat.le_of_ble_eq_true rfl)
  obtain ⟨hP, hK9, hD⟩ := hMA
  exact ⟨rfl, ⟨(F2_1, nF2_2, B2_3, hd2_4), trivial, hP.sub (ws' := [(lo, .inr (2, [.ref ra, .ref d0, .ref b0, .ref t0, .ref r0])), (ra, .inl (T 2, 6, .inr (.inr (.inr (.inr (fun j => some (rd j))))))), (r0, .inr (1, [.ref fr, .int B2_3, .int hd2_4])), (fr, .inr (0, [.ref fq, .int (nI nF2_2)])), (fq, .inl (T 0, 440, .inl F2_1)), (h0, .inr (0, [.ref q0, .int (nI n)])), (q0, .inl (T 0, 440, .inl f))]) [0, 1, 2, 3, 4, 5, 6] rfl, hK9, hD.sub (ws' := [(lo, .inr (2, [.ref ra, .ref d0, .ref b0, .ref t0, .ref r0])), (ra, .inl (T 2, 6, .inr (.inr (.inr (.inr (fun j => some (rd j))))))), (r0, .inr (1, [.ref fr, .int B2_3, .int hd2_4])), (fr, .inr (0, [.ref fq, .int (nI nF2_2)])), (fq, .inl (T 0, 440, .inl F2_1)), (h0, .inr (0, [.ref q0, .int (nI n)])), (q0, .inl (T 0, 440, .inl f))]) [0, 1, 2, 3, 4, 5, 6] (by decide) rfl⟩, hFF⟩
set_option maxHeartbeats 4000000 in
set_option maxRecDepth 100000 in
/-- read: no such row -/
theorem c_read_x1 (l : Launch) (D : va_G) (T : Nat → ClassId) (g : Nat → Nat) (sz : Nat) (hl9 : l.stackTraces = false) (lo : Nat) (ra : Nat) (d0 : Nat) (b0 : Nat) (t0 : Nat) (r0 : Nat) (rd : Nat → Nat) (i : Int32) (hi : i < 0 ∨ ¬ i < nI 6) (x0 : Int32) (x1 : Int32) : TX l yX5_read wsX5_read ({ frames := 7, cells := 1, slots := 6, locals := 111 } : Room) D T g [.ref lo, .int i, .int x0, .int x1] [(lo, .inr (2, [.ref ra, .ref d0, .ref b0, .ref t0, .ref r0])), (ra, .inl (T 2, 6, .inr (.inr (.inr (.inr (fun j => some (rd j)))))))] sz "java/lang/IndexOutOfBoundsException" (fun u : Unit => True) (fun u : Unit => [(lo, .inr (2, [.ref ra, .ref d0, .ref b0, .ref t0, .ref r0])), (ra, .inl (T 2, 6, .inr (.inr (.inr (.inr (fun j => some (rd j)))))))]) 1 6 := by
  refine vx_ofW (cc := cX5_read) (maxL := 6) (ret := (some .int)) (by decide) rfl ?_
  intro p e s m args below meth c s₁ B hml ht hv
  obtain ⟨rfl, hsz, hP, hK, hD0, hG⟩ := hv
  have hx := B.exec
  have hb := B.bytes
  have hr := B.returns
  have hts := atoms_spec (ws := wsX5_read) B.pre
  have hown : s.vm.findClass RX5 = some m.cls := findClass_of_methodNamed B.named
  have hlocks := B.notSynchronized
  subst hsz
  have hD := hD0.self (sz := s.heap.size)
  generalize hAe : va_A [(lo, .inr (2, [.ref ra, .ref d0, .ref b0, .ref t0, .ref r0])), (ra, .inl (T 2, 6, .inr (.inr (.inr (.inr (fun j => some (rd j)))))))] s.heap.size = A at hD hG ⊢
  have hA : ∀ q : Nat, s.heap.size ≤ q → A q := fun q h => by rw [← hAe]; exact Or.inr h
  have hS : va_S A s.heap s.heap [] := va_S.rf
  have hP : va_P D cls [(lo, .inr (2, [.ref ra, .ref d0, .ref b0, .ref t0, .ref r0])), (ra, .inl (T 2, 6, .inr (.inr (.inr (.inr (fun j => some (rd j)))))))] s.heap := hP
  have hl := lv_entry ([.ref lo, .int i, .int x0, .int x1]) (n := 6) (Nat.le_of_ble_eq_true rfl)
  rw [lg_entry_eq]
  generalize (lg_sl ([.ref lo, .int i, .int x0, .int x1]) ++ List.replicate (6 - (lg_sl ([.ref lo, .int i, .int x0, .int x1])).length) Slot.unset).toArray = ls at hl ⊢
  have hl : lv_has ls 6 [(0, .ref lo), (1, .int i), (2, .int x0), (3, .int x1)] := hl
  refine lv_aload_n hx hb dX5_read_0 rfl (lv_at hl 0 rfl) ?_
  refine lv_iload_n hx hb dX5_read_1 rfl (lv_at hl 1 rfl) ?_
  refine tx_V (As := [.int i]) (rest := []) (wc := [(lo, .inr (2, [.ref ra, .ref d0, .ref b0, .ref t0, .ref r0])), (ra, .inl (T 2, 6, .inr (.inr (.inr (.inr (fun j => some (rd j)))))))]) (wr := []) ⟨hx, hb, hml, hown, hts⟩ (c_X5_rowAt_x l D T g s.heap.size hl9 lo ra d0 b0 t0 r0 rd i hi) (cwV 1 hts gX5_read_X5_rowAt rfl rfl rfl (by decide +kernel) ⟨Nat.le_of_ble_eq_true rfl, Nat.le_of_ble_eq_true rfl⟩) (va_recv hK hP (ci := 2) (q0 := 0) rfl rfl) hP hD hK hG hS hA [0, 1] [] rfl (by decide) rfl (by decide) (by decide) ⟨Nat.le_of_ble_eq_true rfl, Nat.le_of_ble_eq_true rfl⟩ rfl hl.1 (Nat.le_of_ble_eq_true rfl) dX5_read_2 rfl ht hlocks (fun u t hal hq1 hP hD hFF => ?_) (Nat.le_of_ble_eq_true rfl) (Nat.le_of_ble_eq_true rfl)
  have hP : va_P D cls [(lo, .inr (2, [.ref ra, .ref d0, .ref b0, .ref t0, .ref r0])), (ra, .inl (T 2, 6, .inr (.inr (.inr (.inr (fun j => some (rd j)))))))] t.heap := hP
  have hD : va_D A [(lo, .inr (2, [.ref ra, .ref d0, .ref b0, .ref t0, .ref r0])), (ra, .inl (T 2, 6, .inr (.inr (.inr (.inr (fun j => some (rd j)))))))] := hD
  exact ⟨rfl, ⟨(), trivial, hP.sub (ws' := [(lo, .inr (2, [.ref ra, .ref d0, .ref b0, .ref t0, .ref r0])), (ra, .inl (T 2, 6, .inr (.inr (.inr (.inr (fun j => some (rd j)))))))]) [0, 1] rfl, va_K.moved hal hK, hD.sub (ws' := [(lo, .inr (2, [.ref ra, .ref d0, .ref b0, .ref t0, .ref r0])), (ra, .inl (T 2, 6, .inr (.inr (.inr (.inr (fun j => some (rd j)))))))]) [0, 1] (by decide) rfl⟩, hFF⟩
set_option maxHeartbeats 4000000 in
set_option maxRecDepth 100000 in
/-- read: no such other row -/
theorem c_read_x2 (l : Launch) (D : va_G) (T : Nat → ClassId) (g : Nat → Nat) (sz : Nat) (hl9 : l.stackTraces = false) (lo : Nat) (ra : Nat) (d0 : Nat) (b0 : Nat) (t0 : Nat) (r0 : Nat) (rd : Nat → Nat) (i : Nat) (hi : i < 6) (j : Int32) (hj : j < 0 ∨ ¬ j < nI 6) (x0 : Int32) : TX l yX5_read wsX5_read ({ frames := 7, cells := 1, slots := 6, locals := 111 } : Room) D T g [.ref lo, .int (nI i), .int j, .int x0] [(lo, .inr (2, [.ref ra, .ref d0, .ref b0, .ref t0, .ref r0])), (ra, .inl (T 2, 6, .inr (.inr (.inr (.inr (fun j => some (rd j)))))))] sz "java/lang/IndexOutOfBoundsException" (fun u : Unit => True) (fun u : Unit => [(lo, .inr (2, [.ref ra, .ref d0, .ref b0, .ref t0, .ref r0])), (ra, .inl (T 2, 6, .inr (.inr (.inr (.inr (fun j => some (rd j)))))))]) 1 6 := by
  refine vx_ofW (cc := cX5_read) (maxL := 6) (ret := (some .int)) (by decide) rfl ?_
  intro p e s m args below meth c s₁ B hml ht hv
  obtain ⟨rfl, hsz, hP, hK, hD0, hG⟩ := hv
  have hx := B.exec
  have hb := B.bytes
  have hr := B.returns
  have hts := atoms_spec (ws := wsX5_read) B.pre
  have hown : s.vm.findClass RX5 = some m.cls := findClass_of_methodNamed B.named
  have hlocks := B.notSynchronized
  subst hsz
  have hD := hD0.self (sz := s.heap.size)
  generalize hAe : va_A [(lo, .inr (2, [.ref ra, .ref d0, .ref b0, .ref t0, .ref r0])), (ra, .inl (T 2, 6, .inr (.inr (.inr (.inr (fun j => some (rd j)))))))] s.heap.size = A at hD hG ⊢
  have hA : ∀ q : Nat, s.heap.size ≤ q → A q := fun q h => by rw [← hAe]; exact Or.inr h
  have hS : va_S A s.heap s.heap [] := va_S.rf
  have hP : va_P D cls [(lo, .inr (2, [.ref ra, .ref d0, .ref b0, .ref t0, .ref r0])), (ra, .inl (T 2, 6, .inr (.inr (.inr (.inr (fun j => some (rd j)))))))] s.heap := hP
  have hl := lv_entry ([.ref lo, .int (nI i), .int j, .int x0]) (n := 6) (Nat.le_of_ble_eq_true rfl)
  rw [lg_entry_eq]
  generalize (lg_sl ([.ref lo, .int (nI i), .int j, .int x0]) ++ List.replicate (6 - (lg_sl ([.ref lo, .int (nI i), .int j, .int x0])).length) Slot.unset).toArray = ls at hl ⊢
  have hl : lv_has ls 6 [(0, .ref lo), (1, .int (nI i)), (2, .int j), (3, .int x0)] := hl
  refine lv_aload_n hx hb dX5_read_0 rfl (lv_at hl 0 rfl) ?_
  refine lv_iload_n hx hb dX5_read_1 rfl (lv_at hl 1 rfl) ?_
  refine ro_V (As := [.int (nI i)]) (rest := []) (wc := [(lo, .inr (2, [.ref ra, .ref d0, .ref b0, .ref t0, .ref r0])), (ra, .inl (T 2, 6, .inr (.inr (.inr (.inr (fun j => some (rd j)))))))]) (r := .ref (rd i)) ⟨hx, hb, hml, hown, hts⟩ (c_X5_rowAt l D T g lo ra d0 b0 t0 r0 rd i hi) (cwV 1 hts gX5_read_X5_rowAt rfl rfl rfl (by decide +kernel) ⟨Nat.le_of_ble_eq_true rfl, Nat.le_of_ble_eq_true rfl⟩) (va_recv hK hP (ci := 2) (q0 := 0) rfl rfl) hP hK hG hS [0, 1] rfl ⟨Nat.zero_le _, Nat.zero_le _⟩ rfl hl.1 (Nat.le_of_ble_eq_true rfl) dX5_read_2 rfl ?_
  refine lv_astore (lv' := [(4, .ref (rd i)), (0, .ref lo), (1, .int (nI i)), (2, .int j), (3, .int x0)]) hx hb dX5_read_5 hl (by decide) rfl (fun ls hl => ?_)
  refine lv_aload_n hx hb dX5_read_7 rfl (lv_at hl 1 rfl) ?_
  refine lv_iload_n hx hb dX5_read_8 rfl (lv_at hl 3 rfl) ?_
  refine tx_V (As := [.int j]) (rest := []) (wc := [(lo, .inr (2, [.ref ra, .ref d0, .ref b0, .ref t0, .ref r0])), (ra, .inl (T 2, 6, .inr (.inr (.inr (.inr (fun j => some (rd j)))))))]) (wr := []) ⟨hx, hb, hml, hown, hts⟩ (c_X5_rowAt_x l D T g s.heap.size hl9 lo ra d0 b0 t0 r0 rd j hj) (cwV 1 hts gX5_read_X5_rowAt rfl rfl rfl (by decide +kernel) ⟨Nat.le_of_ble_eq_true rfl, Nat.le_of_ble_eq_true rfl⟩) (va_recv hK hP (ci := 2) (q0 := 0) rfl rfl) hP hD hK hG hS hA [0, 1] [] rfl (by decide) rfl (by decide) (by decide) ⟨Nat.le_of_ble_eq_true rfl, Nat.le_of_ble_eq_true rfl⟩ rfl hl.1 (Nat.le_of_ble_eq_true rfl) dX5_read_9 rfl ht hlocks (fun u t hal hq1 hP hD hFF => ?_) (Nat.le_of_ble_eq_true rfl) (Nat.le_of_ble_eq_true rfl)
  have hP : va_P D cls [(lo, .inr (2, [.ref ra, .ref d0, .ref b0, .ref t0, .ref r0])), (ra, .inl (T 2, 6, .inr (.inr (.inr (.inr (fun j => some (rd j)))))))] t.heap := hP
  have hD : va_D A [(lo, .inr (2, [.ref ra, .ref d0, .ref b0, .ref t0, .ref r0])), (ra, .inl (T 2, 6, .inr (.inr (.inr (.inr (fun j => some (rd j)))))))] := hD
  exact ⟨rfl, ⟨(), trivial, hP.sub (ws' := [(lo, .inr (2, [.ref ra, .ref d0, .ref b0, .ref t0, .ref r0])), (ra, .inl (T 2, 6, .inr (.inr (.inr (.inr (fun j => some (rd j)))))))]) [0, 1] rfl, va_K.moved hal hK, hD.sub (ws' := [(lo, .inr (2, [.ref ra, .ref d0, .ref b0, .ref t0, .ref r0])), (ra, .inl (T 2, 6, .inr (.inr (.inr (.inr (fun j => some (rd j)))))))]) [0, 1] (by decide) rfl⟩, hFF⟩
set_option maxHeartbeats 4000000 in
set_option maxRecDepth 100000 in
theorem c_read_x3 (l : Launch) (D : va_G) (T : Nat → ClassId) (g : Nat → Nat) (sz : Nat) (hl9 : l.stackTraces = false) (lo : Nat) (ra : Nat) (d0 : Nat) (b0 : Nat) (t0 : Nat) (r0 : Nat) (rd : Nat → Nat) (i : Nat) (j : Nat) (hi : i < 6) (hj : j < 6) (k : Int32) (hk : k < 0 ∨ ¬ k < nI 3) : TX l yX5_read wsX5_read ({ frames := 7, cells := 1, slots := 6, locals := 110 } : Room) D T g [.ref lo, .int (nI i), .int (nI j), .int k] [(lo, .inr (2, [.ref ra, .ref d0, .ref b0, .ref t0, .ref r0])), (ra, .inl (T 2, 6, .inr (.inr (.inr (.inr (fun j => some (rd j)))))))] sz "java/lang/IllegalArgumentException" (fun u : Unit => True) (fun u : Unit => [(lo, .inr (2, [.ref ra, .ref d0, .ref b0, .ref t0, .ref r0])), (ra, .inl (T 2, 6, .inr (.inr (.inr (.inr (fun j => some (rd j)))))))]) 1 6 := by
  refine vx_ofW (cc := cX5_read) (maxL := 6) (ret := (some .int)) (by decide) rfl ?_
  intro p e s m args below meth c s₁ B hml ht hv
  obtain ⟨rfl, hsz, hP, hK, hD0, hG⟩ := hv
  have hx := B.exec
  have hb := B.bytes
  have hr := B.returns
  have hts := atoms_spec (ws := wsX5_read) B.pre
  have hown : s.vm.findClass RX5 = some m.cls := findClass_of_methodNamed B.named
  have hlocks := B.notSynchronized
  subst hsz
  have hD := hD0.self (sz := s.heap.size)
  generalize hAe : va_A [(lo, .inr (2, [.ref ra, .ref d0, .ref b0, .ref t0, .ref r0])), (ra, .inl (T 2, 6, .inr (.inr (.inr (.inr (fun j => some (rd j)))))))] s.heap.size = A at hD hG ⊢
  have hA : ∀ q : Nat, s.heap.size ≤ q → A q := fun q h => by rw [← hAe]; exact Or.inr h
  have hS : va_S A s.heap s.heap [] := va_S.rf
  have hP : va_P D cls [(lo, .inr (2, [.ref ra, .ref d0, .ref b0, .ref t0, .ref r0])), (ra, .inl (T 2, 6, .inr (.inr (.inr (.inr (fun j => some (rd j)))))))] s.heap := hP
  have hl := lv_entry ([.ref lo, .int (nI i), .int (nI j), .int k]) (n := 6) (Nat.le_of_ble_eq_true rfl)
  rw [lg_entry_eq]
  generalize (lg_sl ([.ref lo, .int (nI i), .int (nI j), .int k]) ++ List.replicate (6 - (lg_sl ([.ref lo, .int (nI i), .int (nI j), .int k])).length) Slot.unset).toArray = ls at hl ⊢
  have hl : lv_has ls 6 [(0, .ref lo), (1, .int (nI i)), (2, .int (nI j)), (3, .int k)] := hl
  refine lv_aload_n hx hb dX5_read_0 rfl (lv_at hl 0 rfl) ?_
  refine lv_iload_n hx hb dX5_read_1 rfl (lv_at hl 1 rfl) ?_
  refine ro_V (As := [.int (nI i)]) (rest := []) (wc := [(lo, .inr (2, [.ref ra, .ref d0, .ref b0, .ref t0, .ref r0])), (ra, .inl (T 2, 6, .inr (.inr (.inr (.inr (fun j => some (rd j)))))))]) (r := .ref (rd i)) ⟨hx, hb, hml, hown, hts⟩ (c_X5_rowAt l D T g lo ra d0 b0 t0 r0 rd i hi) (cwV 1 hts gX5_read_X5_rowAt rfl rfl rfl (by decide +kernel) ⟨Nat.le_of_ble_eq_true rfl, Nat.le_of_ble_eq_true rfl⟩) (va_recv hK hP (ci := 2) (q0 := 0) rfl rfl) hP hK hG hS [0, 1] rfl ⟨Nat.zero_le _, Nat.zero_le _⟩ rfl hl.1 (Nat.le_of_ble_eq_true rfl) dX5_read_2 rfl ?_
  refine lv_astore (lv' := [(4, .ref (rd i)), (0, .ref lo), (1, .int (nI i)), (2, .int (nI j)), (3, .int k)]) hx hb dX5_read_5 hl (by decide) rfl (fun ls hl => ?_)
  refine lv_aload_n hx hb dX5_read_7 rfl (lv_at hl 1 rfl) ?_
  refine lv_iload_n hx hb dX5_read_8 rfl (lv_at hl 3 rfl) ?_
  refine ro_V (As := [.int (nI j)]) (rest := []) (wc := [(lo, .inr (2, [.ref ra, .ref d0, .ref b0, .ref t0, .ref r0])), (ra, .inl (T 2, 6, .inr (.inr (.inr (.inr (fun j => some (rd j)))))))]) (r := .ref (rd j)) ⟨hx, hb, hml, hown, hts⟩ (c_X5_rowAt l D T g lo ra d0 b0 t0 r0 rd j hj) (cwV 1 hts gX5_read_X5_rowAt rfl rfl rfl (by decide +kernel) ⟨Nat.le_of_ble_eq_true rfl, Nat.le_of_ble_eq_true rfl⟩) (va_recv hK hP (ci := 2) (q0 := 0) rfl rfl) hP hK hG hS [0, 1] rfl ⟨Nat.zero_le _, Nat.zero_le _⟩ rfl hl.1 (Nat.le_of_ble_eq_true rfl) dX5_read_9 rfl ?_
  refine lv_astore (lv' := [(5, .ref (rd j)), (4, .ref (rd i)), (0, .ref lo), (1, .int (nI i)), (2, .int (nI j)), (3, .int k)]) hx hb dX5_read_12 hl (by decide) rfl (fun ls hl => ?_)
  refine lv_aload_n hx hb dX5_read_14 rfl (lv_at hl 2 rfl) ?_
  refine lv_aload hx hb dX5_read_15 (lv_at hl 1 rfl) ?_
  refine lv_iload_n hx hb dX5_read_17 rfl (lv_at hl 5 rfl) ?_
  refine tx_S (As := [.int k]) (rest := [.ref (rd i), .ref lo]) (wc := []) (wr := [(lo, .inr (2, [.ref ra, .ref d0, .ref b0, .ref t0, .ref r0])), (ra, .inl (T 2, 6, .inr (.inr (.inr (.inr (fun j => some (rd j)))))))]) ⟨hx, hb, hml, hown, hts⟩ (c_X5_kindAt_x l D T g s.heap.size hl9 k hk) (va_cwS 1 hts gX5_read_X5_kindAt rfl rfl rfl (by decide +kernel) ⟨Nat.le_of_ble_eq_true rfl, Nat.le_of_ble_eq_true rfl⟩) hP hD hK hG hS hA [] [0, 1] rfl (by decide) rfl (by decide) (by decide) ⟨Nat.le_of_ble_eq_true rfl, Nat.le_of_ble_eq_true rfl⟩ rfl hl.1 (Nat.le_of_ble_eq_true rfl) dX5_read_18 rfl ht hlocks (fun u t hal hq1 hP hD hFF => ?_) (Nat.le_of_ble_eq_true rfl) (Nat.le_of_ble_eq_true rfl)
  have hP : va_P D cls [(lo, .inr (2, [.ref ra, .ref d0, .ref b0, .ref t0, .ref r0])), (ra, .inl (T 2, 6, .inr (.inr (.inr (.inr (fun j => some (rd j)))))))] t.heap := hP
  have hD : va_D A [(lo, .inr (2, [.ref ra, .ref d0, .ref b0, .ref t0, .ref r0])), (ra, .inl (T 2, 6, .inr (.inr (.inr (.inr (fun j => some (rd j)))))))] := hD
  exact ⟨rfl, ⟨(), trivial, hP.sub (ws' := [(lo, .inr (2, [.ref ra, .ref d0, .ref b0, .ref t0, .ref r0])), (ra, .inl (T 2, 6, .inr (.inr (.inr (.inr (fun j => some (rd j)))))))]) [0, 1] rfl, va_K.moved hal hK, hD.sub (ws' := [(lo, .inr (2, [.ref ra, .ref d0, .ref b0, .ref t0, .ref r0])), (ra, .inl (T 2, 6, .inr (.inr (.inr (.inr (fun j => some (rd j)))))))]) [0, 1] (by decide) rfl⟩, hFF⟩
set_option maxHeartbeats 4000000 in
set_option maxRecDepth 100000 in
theorem c_read_x4 (l : Launch) (D : va_G) (T : Nat → ClassId) (g : Nat → Nat) (sz : Nat) (hl9 : l.stackTraces = false) (lo : Nat) (ra : Nat) (d0 : Nat) (b0 : Nat) (t0 : Nat) (r0 : Nat) (rd : Nat → Nat) (fr : Nat) (fq : Nat) (rf : Nat → Int32) (rn : Nat) (B0 : Int32) (hd0 : Int32) (i : Nat) (q0 : Nat) (f : Nat → Int32) (n : Nat) (b : Nat → Nat) (hb9 : RB f n b) (j : Nat) (hi : i < 6) (hj : j < 6) (k : Nat) (hk : k < 3) (hw : wroB k n b = true) : TX l yX5_read wsX5_read ({ frames := 7, cells := 1, slots := 6, locals := 116 } : Room) D T g [.ref lo, .int (nI i), .int (nI j), .int (nI k)] [(lo, .inr (2, [.ref ra, .ref d0, .ref b0, .ref t0, .ref r0])), (ra, .inl (T 2, 6, .inr (.inr (.inr (.inr (fun j => some (rd j))))))), (r0, .inr (1, [.ref fr, .int B0, .int hd0])), (fr, .inr (0, [.ref fq, .int (nI rn)])), (fq, .inl (T 0, 440, .inl rf)), (rd i, .inr (0, [.ref q0, .int (nI n)])), (q0, .inl (T 0, 440, .inl f))] sz "java/lang/IllegalArgumentException" (fun u : (Nat → Int32) × Nat × Int32 × Int32 => True) (fun u : (Nat → Int32) × Nat × Int32 × Int32 => [(lo, .inr (2, [.ref ra, .ref d0, .ref b0, .ref t0, .ref r0])), (ra, .inl (T 2, 6, .inr (.inr (.inr (.inr (fun j => some (rd j))))))), (r0, .inr (1, [.ref fr, .int u.2.2.1, .int u.2.2.2])), (fr, .inr (0, [.ref fq, .int (nI u.2.1)])), (fq, .inl (T 0, 440, .inl u.1)), (rd i, .inr (0, [.ref q0, .int (nI n)])), (q0, .inl (T 0, 440, .inl f))]) 1 6 := by
  refine vx_ofW (cc := cX5_read) (maxL := 6) (ret := (some .int)) (by decide) rfl ?_
  intro p e s m args below meth c s₁ B hml ht hv
  obtain ⟨rfl, hsz, hP, hK, hD0, hG⟩ := hv
  have hx := B.exec
  have hb := B.bytes
  have hr := B.returns
  have hts := atoms_spec (ws := wsX5_read) B.pre
  have hown : s.vm.findClass RX5 = some m.cls := findClass_of_methodNamed B.named
  have hlocks := B.notSynchronized
  subst hsz
  have hD := hD0.self (sz := s.heap.size)
  generalize hAe : va_A [(lo, .inr (2, [.ref ra, .ref d0, .ref b0, .ref t0, .ref r0])), (ra, .inl (T 2, 6, .inr (.inr (.inr (.inr (fun j => some (rd j))))))), (r0, .inr (1, [.ref fr, .int B0, .int hd0])), (fr, .inr (0, [.ref fq, .int (nI rn)])), (fq, .inl (T 0, 440, .inl rf)), (rd i, .inr (0, [.ref q0, .int (nI n)])), (q0, .inl (T 0, 440, .inl f))] s.heap.size = A at hD hG ⊢
  have hA : ∀ q : Nat, s.heap.size ≤ q → A q := fun q h => by rw [← hAe]; exact Or.inr h
  have hS : va_S A s.heap s.heap [] := va_S.rf
  have hP : va_P D cls [(lo, .inr (2, [.ref ra, .ref d0, .ref b0, .ref t0, .ref r0])), (ra, .inl (T 2, 6, .inr (.inr (.inr (.inr (fun j => some (rd j))))))), (r0, .inr (1, [.ref fr, .int B0, .int hd0])), (fr, .inr (0, [.ref fq, .int (nI rn)])), (fq, .inl (T 0, 440, .inl rf)), (rd i, .inr (0, [.ref q0, .int (nI n)])), (q0, .inl (T 0, 440, .inl f))] s.heap := hP
  have hl := lv_entry ([.ref lo, .int (nI i), .int (nI j), .int (nI k)]) (n := 6) (Nat.le_of_ble_eq_true rfl)
  rw [lg_entry_eq]
  generalize (lg_sl ([.ref lo, .int (nI i), .int (nI j), .int (nI k)]) ++ List.replicate (6 - (lg_sl ([.ref lo, .int (nI i), .int (nI j), .int (nI k)])).length) Slot.unset).toArray = ls at hl ⊢
  have hl : lv_has ls 6 [(0, .ref lo), (1, .int (nI i)), (2, .int (nI j)), (3, .int (nI k))] := hl
  refine lv_aload_n hx hb dX5_read_0 rfl (lv_at hl 0 rfl) ?_
  refine lv_iload_n hx hb dX5_read_1 rfl (lv_at hl 1 rfl) ?_
  refine ro_V (As := [.int (nI i)]) (rest := []) (wc := [(lo, .inr (2, [.ref ra, .ref d0, .ref b0, .ref t0, .ref r0])), (ra, .inl (T 2, 6, .inr (.inr (.inr (.inr (fun j => some (rd j)))))))]) (r := .ref (rd i)) ⟨hx, hb, hml, hown, hts⟩ (c_X5_rowAt l D T g lo ra d0 b0 t0 r0 rd i hi) (cwV 1 hts gX5_read_X5_rowAt rfl rfl rfl (by decide +kernel) ⟨Nat.le_of_ble_eq_true rfl, Nat.le_of_ble_eq_true rfl⟩) (va_recv hK hP (ci := 2) (q0 := 0) rfl rfl) hP hK hG hS [0, 1] rfl ⟨Nat.zero_le _, Nat.zero_le _⟩ rfl hl.1 (Nat.le_of_ble_eq_true rfl) dX5_read_2 rfl ?_
  refine lv_astore (lv' := [(4, .ref (rd i)), (0, .ref lo), (1, .int (nI i)), (2, .int (nI j)), (3, .int (nI k))]) hx hb dX5_read_5 hl (by decide) rfl (fun ls hl => ?_)
  refine lv_aload_n hx hb dX5_read_7 rfl (lv_at hl 1 rfl) ?_
  refine lv_iload_n hx hb dX5_read_8 rfl (lv_at hl 3 rfl) ?_
  refine ro_V (As := [.int (nI j)]) (rest := []) (wc := [(lo, .inr (2, [.ref ra, .ref d0, .ref b0, .ref t0, .ref r0])), (ra, .inl (T 2, 6, .inr (.inr (.inr (.inr (fun j => some (rd j)))))))]) (r := .ref (rd j)) ⟨hx, hb, hml, hown, hts⟩ (c_X5_rowAt l D T g lo ra d0 b0 t0 r0 rd j hj) (cwV 1 hts gX5_read_X5_rowAt rfl rfl rfl (by decide +kernel) ⟨Nat.le_of_ble_eq_true rfl, Nat.le_of_ble_eq_true rfl⟩) (va_recv hK hP (ci := 2) (q0 := 0) rfl rfl) hP hK hG hS [0, 1] rfl ⟨Nat.zero_le _, Nat.zero_le _⟩ rfl hl.1 (Nat.le_of_ble_eq_true rfl) dX5_read_9 rfl ?_
  refine lv_astore (lv' := [(5, .ref (rd j)), (4, .ref (rd i)), (0, .ref lo), (1, .int (nI i)), (2, .int (nI j)), (3, .int (nI k))]) hx hb dX5_read_12 hl (by decide) rfl (fun ls hl => ?_)
  refine lv_aload_n hx hb dX5_read_14 rfl (lv_at hl 2 rfl) ?_
  refine lv_aload hx hb dX5_read_15 (lv_at hl 1 rfl) ?_
  refine lv_iload_n hx hb dX5_read_17 rfl (lv_at hl 5 rfl) ?_
  refine ro_S (As := [.int (nI k)]) (rest := [.ref (rd i), .ref lo]) (wc := []) (r := .ref (g k)) ⟨hx, hb, hml, hown, hts⟩ (c_X5_kindAt l D T g k hk) (va_cwS 1 hts gX5_read_X5_kindAt rfl rfl rfl (by decide +kernel) ⟨Nat.le_of_ble_eq_true rfl, Nat.le_of_ble_eq_true rfl⟩) hP hK hG hS [] rfl ⟨Nat.zero_le _, Nat.zero_le _⟩ rfl hl.1 (Nat.le_of_ble_eq_true rfl) dX5_read_18 rfl ?_
  refine tx_V (As := [.ref (rd i), .ref (g k)]) (rest := []) (wc := [(lo, .inr (2, [.ref ra, .ref d0, .ref b0, .ref t0, .ref r0])), (ra, .inl (T 2, 6, .inr (.inr (.inr (.inr (fun j => some (rd j))))))), (r0, .inr (1, [.ref fr, .int B0, .int hd0])), (fr, .inr (0, [.ref fq, .int (nI rn)])), (fq, .inl (T 0, 440, .inl rf)), (rd i, .inr (0, [.ref q0, .int (nI n)])), (q0, .inl (T 0, 440, .inl f))]) (wr := []) ⟨hx, hb, hml, hown, hts⟩ (c_X5_readOr_w l D T g s.heap.size hl9 lo ra d0 b0 t0 r0 rd fr fq rf rn B0 hd0 (rd i) q0 f n b (hb9) k hk hw) (cwV 2 hts gX5_read_X5_readOrRefuse rfl rfl rfl (by decide +kernel) ⟨Nat.le_of_ble_eq_true rfl, Nat.le_of_ble_eq_true rfl⟩) (va_recv hK hP (ci := 2) (q0 := 0) rfl rfl) hP hD hK hG hS hA [0, 1, 2, 3, 4, 5, 6] [] rfl (by decide) rfl (by decide) (by decide) ⟨Nat.le_of_ble_eq_true rfl, Nat.le_of_ble_eq_true rfl⟩ rfl hl.1 (Nat.le_of_ble_eq_true rfl) dX5_read_21 rfl ht hlocks (fun u t hal hq5 hP hD hFF => ?_) (Nat.le_of_ble_eq_true rfl) (Nat.le_of_ble_eq_true rfl)
  obtain ⟨F2_1, nF2_2, B2_3, hd2_4⟩ := u
  have hP : va_P D cls [(lo, .inr (2, [.ref ra, .ref d0, .ref b0, .ref t0, .ref r0])), (ra, .inl (T 2, 6, .inr (.inr (.inr (.inr (fun j => some (rd j))))))), (r0, .inr (1, [.ref fr, .int B2_3, .int hd2_4])), (fr, .inr (0, [.ref fq, .int (nI nF2_2)])), (fq, .inl (T 0, 440, .inl F2_1)), ((rd i), .inr (0, [.ref q0, .int (nI n)])), (q0, .inl (T 0, 440, .inl f))] t.heap := hP
  have hD : va_D A [(lo, .inr (2, [.ref ra, .ref d0, .ref b0, .ref t0, .ref r0])), (ra, .inl (T 2, 6, .inr (.inr (.inr (.inr (fun j => some (rd j))))))), (r0, .inr (1, [.ref fr, .int B2_3, .int hd2_4])), (fr, .inr (0, [.ref fq, .int (nI nF2_2)])), (fq, .inl (T 0, 440, .inl F2_1)), ((rd i), .inr (0, [.ref q0, .int (nI n)])), (q0, .inl (T 0, 440, .inl f))] := hD
  exact ⟨rfl, ⟨(F2_1, nF2_2, B2_3, hd2_4), trivial, hP.sub (ws' := [(lo, .inr (2, [.ref ra, .ref d0, .ref b0, .ref t0, .ref r0])), (ra, .inl (T 2, 6, .inr (.inr (.inr (.inr (fun j => some (rd j))))))), (r0, .inr (1, [.ref fr, .int B2_3, .int hd2_4])), (fr, .inr (0, [.ref fq, .int (nI nF2_2)])), (fq, .inl (T 0, 440, .inl F2_1)), ((rd i), .inr (0, [.ref q0, .int (nI n)])), (q0, .inl (T 0, 440, .inl f))]) [0, 1, 2, 3, 4, 5, 6] rfl, va_K.moved hal hK, hD.sub (ws' := [(lo, .inr (2, [.ref ra, .ref d0, .ref b0, .ref t0, .ref r0])), (ra, .inl (T 2, 6, .inr (.inr (.inr (.inr (fun j => some (rd j))))))), (r0, .inr (1, [.ref fr, .int B2_3, .int hd2_4])), (fr, .inr (0, [.ref fq, .int (nI nF2_2)])), (fq, .inl (T 0, 440, .inl F2_1)), ((rd i), .inr (0, [.ref q0, .int (nI n)])), (q0, .inl (T 0, 440, .inl f))]) [0, 1, 2, 3, 4, 5, 6] (by decide) rfl⟩, hFF⟩
set_option maxHeartbeats 4000000 in
set_option maxRecDepth 100000 in
theorem c_read_x5 (l : Launch) (D : va_G) (T : Nat → ClassId) (g : Nat → Nat) (sz : Nat) (hl9 : l.stackTraces = false) (lo : Nat) (ra : Nat) (d0 : Nat) (b0 : Nat) (t0 : Nat) (r0 : Nat) (rd : Nat → Nat) (i : Nat) (q0 : Nat) (f : Nat → Int32) (n : Nat) (b : Nat → Nat) (hb9 : RB f n b) (j : Nat) (hi : i < 6) (hj : j < 6) (k : Nat) (hk : k < 3) (hw : wroB k n b = false) (hu : untB k n b = true) : TX l yX5_read wsX5_read ({ frames := 7, cells := 1, slots := 6, locals := 116 } : Room) D T g [.ref lo, .int (nI i), .int (nI j), .int (nI k)] [(lo, .inr (2, [.ref ra, .ref d0, .ref b0, .ref t0, .ref r0])), (ra, .inl (T 2, 6, .inr (.inr (.inr (.inr (fun j => some (rd j))))))), (rd i, .inr (0, [.ref q0, .int (nI n)])), (q0, .inl (T 0, 440, .inl f))] sz "java/lang/UnsupportedOperationException" (fun u : Unit => True) (fun u : Unit => [(lo, .inr (2, [.ref ra, .ref d0, .ref b0, .ref t0, .ref r0])), (ra, .inl (T 2, 6, .inr (.inr (.inr (.inr (fun j => some (rd j))))))), (rd i, .inr (0, [.ref q0, .int (nI n)])), (q0, .inl (T 0, 440, .inl f))]) 1 6 := by
  refine vx_ofW (cc := cX5_read) (maxL := 6) (ret := (some .int)) (by decide) rfl ?_
  intro p e s m args below meth c s₁ B hml ht hv
  obtain ⟨rfl, hsz, hP, hK, hD0, hG⟩ := hv
  have hx := B.exec
  have hb := B.bytes
  have hr := B.returns
  have hts := atoms_spec (ws := wsX5_read) B.pre
  have hown : s.vm.findClass RX5 = some m.cls := findClass_of_methodNamed B.named
  have hlocks := B.notSynchronized
  subst hsz
  have hD := hD0.self (sz := s.heap.size)
  generalize hAe : va_A [(lo, .inr (2, [.ref ra, .ref d0, .ref b0, .ref t0, .ref r0])), (ra, .inl (T 2, 6, .inr (.inr (.inr (.inr (fun j => some (rd j))))))), (rd i, .inr (0, [.ref q0, .int (nI n)])), (q0, .inl (T 0, 440, .inl f))] s.heap.size = A at hD hG ⊢
  have hA : ∀ q : Nat, s.heap.size ≤ q → A q := fun q h => by rw [← hAe]; exact Or.inr h
  have hS : va_S A s.heap s.heap [] := va_S.rf
  have hP : va_P D cls [(lo, .inr (2, [.ref ra, .ref d0, .ref b0, .ref t0, .ref r0])), (ra, .inl (T 2, 6, .inr (.inr (.inr (.inr (fun j => some (rd j))))))), (rd i, .inr (0, [.ref q0, .int (nI n)])), (q0, .inl (T 0, 440, .inl f))] s.heap := hP
  have hl := lv_entry ([.ref lo, .int (nI i), .int (nI j), .int (nI k)]) (n := 6) (Nat.le_of_ble_eq_true rfl)
  rw [lg_entry_eq]
  generalize (lg_sl ([.ref lo, .int (nI i), .int (nI j), .int (nI k)]) ++ List.replicate (6 - (lg_sl ([.ref lo, .int (nI i), .int (nI j), .int (nI k)])).length) Slot.unset).toArray = ls at hl ⊢
  have hl : lv_has ls 6 [(0, .ref lo), (1, .int (nI i)), (2, .int (nI j)), (3, .int (nI k))] := hl
  refine lv_aload_n hx hb dX5_read_0 rfl (lv_at hl 0 rfl) ?_
  refine lv_iload_n hx hb dX5_read_1 rfl (lv_at hl 1 rfl) ?_
  refine ro_V (As := [.int (nI i)]) (rest := []) (wc := [(lo, .inr (2, [.ref ra, .ref d0, .ref b0, .ref t0, .ref r0])), (ra, .inl (T 2, 6, .inr (.inr (.inr (.inr (fun j => some (rd j)))))))]) (r := .ref (rd i)) ⟨hx, hb, hml, hown, hts⟩ (c_X5_rowAt l D T g lo ra d0 b0 t0 r0 rd i hi) (cwV 1 hts gX5_read_X5_rowAt rfl rfl rfl (by decide +kernel) ⟨Nat.le_of_ble_eq_true rfl, Nat.le_of_ble_eq_true rfl⟩) (va_recv hK hP (ci := 2) (q0 := 0) rfl rfl) hP hK hG hS [0, 1] rfl ⟨Nat.zero_le _, Nat.zero_le _⟩ rfl hl.1 (Nat.le_of_ble_eq_true rfl) dX5_read_2 rfl ?_
  refine lv_astore (lv' := [(4, .ref (rd i)), (0, .ref lo), (1, .int (nI i)), (2, .int (nI j)), (3, .int (nI k))]) hx hb dX5_read_5 hl (by decide) rfl (fun ls hl => ?_)
  refine lv_aload_n hx hb dX5_read_7 rfl (lv_at hl 1 rfl) ?_
  refine lv_iload_n hx hb dX5_read_8 rfl (lv_at hl 3 rfl) ?_
  refine ro_V (As := [.int (nI j)]) (rest := []) (wc := [(lo, .inr (2, [.ref ra, .ref d0, .ref b0, .ref t0, .ref r0])), (ra, .inl (T 2, 6, .inr (.inr (.inr (.inr (fun j => some (rd j)))))))]) (r := .ref (rd j)) ⟨hx, hb, hml, hown, hts⟩ (c_X5_rowAt l D T g lo ra d0 b0 t0 r0 rd j hj) (cwV 1 hts gX5_read_X5_rowAt rfl rfl rfl (by decide +kernel) ⟨Nat.le_of_ble_eq_true rfl, Nat.le_of_ble_eq_true rfl⟩) (va_recv hK hP (ci := 2) (q0 := 0) rfl rfl) hP hK hG hS [0, 1] rfl ⟨Nat.zero_le _, Nat.zero_le _⟩ rfl hl.1 (Nat.le_of_ble_eq_true rfl) dX5_read_9 rfl ?_
  refine lv_astore (lv' := [(5, .ref (rd j)), (4, .ref (rd i)), (0, .ref lo), (1, .int (nI i)), (2, .int (nI j)), (3, .int (nI k))]) hx hb dX5_read_12 hl (by decide) rfl (fun ls hl => ?_)
  refine lv_aload_n hx hb dX5_read_14 rfl (lv_at hl 2 rfl) ?_
  refine lv_aload hx hb dX5_read_15 (lv_at hl 1 rfl) ?_
  refine lv_iload_n hx hb dX5_read_17 rfl (lv_at hl 5 rfl) ?_
  refine ro_S (As := [.int (nI k)]) (rest := [.ref (rd i), .ref lo]) (wc := []) (r := .ref (g k)) ⟨hx, hb, hml, hown, hts⟩ (c_X5_kindAt l D T g k hk) (va_cwS 1 hts gX5_read_X5_kindAt rfl rfl rfl (by decide +kernel) ⟨Nat.le_of_ble_eq_true rfl, Nat.le_of_ble_eq_true rfl⟩) hP hK hG hS [] rfl ⟨Nat.zero_le _, Nat.zero_le _⟩ rfl hl.1 (Nat.le_of_ble_eq_true rfl) dX5_read_18 rfl ?_
  refine tx_V (As := [.ref (rd i), .ref (g k)]) (rest := []) (wc := [(lo, .inr (2, [.ref ra, .ref d0, .ref b0, .ref t0, .ref r0])), (ra, .inl (T 2, 6, .inr (.inr (.inr (.inr (fun j => some (rd j))))))), (rd i, .inr (0, [.ref q0, .int (nI n)])), (q0, .inl (T 0, 440, .inl f))]) (wr := []) ⟨hx, hb, hml, hown, hts⟩ (c_X5_readOr_u l D T g s.heap.size hl9 lo ra d0 b0 t0 r0 rd (rd i) q0 f n b (hb9) k hk hw hu) (cwV 2 hts gX5_read_X5_readOrRefuse rfl rfl rfl (by decide +kernel) ⟨Nat.le_of_ble_eq_true rfl, Nat.le_of_ble_eq_true rfl⟩) (va_recv hK hP (ci := 2) (q0 := 0) rfl rfl) hP hD hK hG hS hA [0, 1, 2, 3] [] rfl (by decide) rfl (by decide) (by decide) ⟨Nat.le_of_ble_eq_true rfl, Nat.le_of_ble_eq_true rfl⟩ rfl hl.1 (Nat.le_of_ble_eq_true rfl) dX5_read_21 rfl ht hlocks (fun u t hal hq1 hP hD hFF => ?_) (Nat.le_of_ble_eq_true rfl) (Nat.le_of_ble_eq_true rfl)
  have hP : va_P D cls [(lo, .inr (2, [.ref ra, .ref d0, .ref b0, .ref t0, .ref r0])), (ra, .inl (T 2, 6, .inr (.inr (.inr (.inr (fun j => some (rd j))))))), ((rd i), .inr (0, [.ref q0, .int (nI n)])), (q0, .inl (T 0, 440, .inl f))] t.heap := hP
  have hD : va_D A [(lo, .inr (2, [.ref ra, .ref d0, .ref b0, .ref t0, .ref r0])), (ra, .inl (T 2, 6, .inr (.inr (.inr (.inr (fun j => some (rd j))))))), ((rd i), .inr (0, [.ref q0, .int (nI n)])), (q0, .inl (T 0, 440, .inl f))] := hD
  exact ⟨rfl, ⟨(), trivial, hP.sub (ws' := [(lo, .inr (2, [.ref ra, .ref d0, .ref b0, .ref t0, .ref r0])), (ra, .inl (T 2, 6, .inr (.inr (.inr (.inr (fun j => some (rd j))))))), ((rd i), .inr (0, [.ref q0, .int (nI n)])), (q0, .inl (T 0, 440, .inl f))]) [0, 1, 2, 3] rfl, va_K.moved hal hK, hD.sub (ws' := [(lo, .inr (2, [.ref ra, .ref d0, .ref b0, .ref t0, .ref r0])), (ra, .inl (T 2, 6, .inr (.inr (.inr (.inr (fun j => some (rd j))))))), ((rd i), .inr (0, [.ref q0, .int (nI n)])), (q0, .inl (T 0, 440, .inl f))]) [0, 1, 2, 3] (by decide) rfl⟩, hFF⟩
set_option maxHeartbeats 4000000 in
set_option maxRecDepth 100000 in
theorem c_read (l : Launch) (D : va_G) (T : Nat → ClassId) (g : Nat → Nat) (sz : Nat) (lo : Nat) (ra : Nat) (d0 : Nat) (b0 : Nat) (t0 : Nat) (r0 : Nat) (rd : Nat → Nat) (fr : Nat) (fq : Nat) (rf : Nat → Int32) (rn : Nat) (B0 : Int32) (hd0 : Int32) (i : Nat) (q0 : Nat) (f : Nat → Int32) (n : Nat) (j : Nat) (q1 : Nat) (f1 : Nat → Int32) (n1 : Nat) (b : Nat → Nat) (hb9 : RB f n b) (hi : i < 6) (hj : j < 6) (k : Nat) (hk : k < 3) (hw : wroB k n b = false) (hu : untB k n b = false) : MU l yX5_read wsX5_read ({ frames := 5, cells := 0, slots := 0, locals := 116 } : Room) D T g [.ref lo, .int (nI i), .int (nI j), .int (nI k)] [(lo, .inr (2, [.ref ra, .ref d0, .ref b0, .ref t0, .ref r0])), (ra, .inl (T 2, 6, .inr (.inr (.inr (.inr (fun j => some (rd j))))))), (r0, .inr (1, [.ref fr, .int B0, .int hd0])), (fr, .inr (0, [.ref fq, .int (nI rn)])), (fq, .inl (T 0, 440, .inl rf)), (rd i, .inr (0, [.ref q0, .int (nI n)])), (q0, .inl (T 0, 440, .inl f)), (rd j, .inr (0, [.ref q1, .int (nI n1)])), (q1, .inl (T 0, 440, .inl f1))] sz (fun u : (Nat → Int32) × Nat × Int32 × Int32 × (Nat → Int32) => some (.int (nI u.2.1))) (fun u : (Nat → Int32) × Nat × Int32 × Int32 × (Nat → Int32) => u.2.1 = lF k n b * 6 / 8 ∧ RB u.2.2.2.2 u.2.1 (outB (lwF k n b))) (fun u : (Nat → Int32) × Nat × Int32 × Int32 × (Nat → Int32) => [(lo, .inr (2, [.ref ra, .ref d0, .ref b0, .ref t0, .ref r0])), (ra, .inl (T 2, 6, .inr (.inr (.inr (.inr (fun j => some (rd j))))))), (r0, .inr (1, [.ref fr, .int u.2.2.1, .int u.2.2.2.1])), (fr, .inr (0, [.ref fq, .int (nI u.2.1)])), (fq, .inl (T 0, 440, .inl u.1)), (rd i, .inr (0, [.ref q0, .int (nI n)])), (q0, .inl (T 0, 440, .inl f)), (rd j, .inr (0, [.ref q1, .int (nI u.2.1)])), (q1, .inl (T 0, 440, .inl u.2.2.2.2))]) 0 0 := by
  refine Met.ofW (cc := cX5_read) (maxL := 6) (ret := (some .int)) (by decide) rfl ?_
  intro p e s m args below meth c s₁ B hml hv
  obtain ⟨rfl, hsz, hP, hK, hD0, hG⟩ := hv
  have hx := B.exec
  have hb := B.bytes
  have hr := B.returns
  have hts := atoms_spec (ws := wsX5_read) B.pre
  have hown : s.vm.findClass RX5 = some m.cls := findClass_of_methodNamed B.named
  have hlocks := B.notSynchronized
  have hi_X1 : ∀ w ∈ wsX10, w ∈ wsX5_read := by decide +kernel
  have hi_X2 : ∀ w ∈ wsX20, w ∈ wsX5_read := by decide +kernel
  have hi_X5 : ∀ w ∈ wsX50, w ∈ wsX5_read := by decide +kernel
  subst hsz
  have hD := hD0.self (sz := s.heap.size)
  generalize hAe : va_A [(lo, .inr (2, [.ref ra, .ref d0, .ref b0, .ref t0, .ref r0])), (ra, .inl (T 2, 6, .inr (.inr (.inr (.inr (fun j => some (rd j))))))), (r0, .inr (1, [.ref fr, .int B0, .int hd0])), (fr, .inr (0, [.ref fq, .int (nI rn)])), (fq, .inl (T 0, 440, .inl rf)), (rd i, .inr (0, [.ref q0, .int (nI n)])), (q0, .inl (T 0, 440, .inl f)), (rd j, .inr (0, [.ref q1, .int (nI n1)])), (q1, .inl (T 0, 440, .inl f1))] s.heap.size = A at hD hG ⊢
  have hA : ∀ q : Nat, s.heap.size ≤ q → A q := fun q h => by rw [← hAe]; exact Or.inr h
  have hS : va_S A s.heap s.heap [] := va_S.rf
  have hP : va_P D cls [(lo, .inr (2, [.ref ra, .ref d0, .ref b0, .ref t0, .ref r0])), (ra, .inl (T 2, 6, .inr (.inr (.inr (.inr (fun j => some (rd j))))))), (r0, .inr (1, [.ref fr, .int B0, .int hd0])), (fr, .inr (0, [.ref fq, .int (nI rn)])), (fq, .inl (T 0, 440, .inl rf)), (rd i, .inr (0, [.ref q0, .int (nI n)])), (q0, .inl (T 0, 440, .inl f)), (rd j, .inr (0, [.ref q1, .int (nI n1)])), (q1, .inl (T 0, 440, .inl f1))] s.heap := hP
  have hl := lv_entry ([.ref lo, .int (nI i), .int (nI j), .int (nI k)]) (n := 6) (Nat.le_of_ble_eq_true rfl)
  rw [lg_entry_eq]
  generalize (lg_sl ([.ref lo, .int (nI i), .int (nI j), .int (nI k)]) ++ List.replicate (6 - (lg_sl ([.ref lo, .int (nI i), .int (nI j), .int (nI k)])).length) Slot.unset).toArray = ls at hl ⊢
  have hl : lv_has ls 6 [(0, .ref lo), (1, .int (nI i)), (2, .int (nI j)), (3, .int (nI k))] := hl
  refine lv_aload_n hx hb dX5_read_0 rfl (lv_at hl 0 rfl) ?_
  refine lv_iload_n hx hb dX5_read_1 rfl (lv_at hl 1 rfl) ?_
  refine ro_V (As := [.int (nI i)]) (rest := []) (wc := [(lo, .inr (2, [.ref ra, .ref d0, .ref b0, .ref t0, .ref r0])), (ra, .inl (T 2, 6, .inr (.inr (.inr (.inr (fun j => some (rd j)))))))]) (r := .ref (rd i)) ⟨hx, hb, hml, hown, hts⟩ (c_X5_rowAt l D T g lo ra d0 b0 t0 r0 rd i hi) (cwV 1 hts gX5_read_X5_rowAt rfl rfl rfl (by decide +kernel) ⟨Nat.le_of_ble_eq_true rfl, Nat.le_of_ble_eq_true rfl⟩) (va_recv hK hP (ci := 2) (q0 := 0) rfl rfl) hP hK hG hS [0, 1] rfl ⟨Nat.zero_le _, Nat.zero_le _⟩ rfl hl.1 (Nat.le_of_ble_eq_true rfl) dX5_read_2 rfl ?_
  refine lv_astore (lv' := [(4, .ref (rd i)), (0, .ref lo), (1, .int (nI i)), (2, .int (nI j)), (3, .int (nI k))]) hx hb dX5_read_5 hl (by decide) rfl (fun ls hl => ?_)
  refine lv_aload_n hx hb dX5_read_7 rfl (lv_at hl 1 rfl) ?_
  refine lv_iload_n hx hb dX5_read_8 rfl (lv_at hl 3 rfl) ?_
  refine ro_V (As := [.int (nI j)]) (rest := []) (wc := [(lo, .inr (2, [.ref ra, .ref d0, .ref b0, .ref t0, .ref r0])), (ra, .inl (T 2, 6, .inr (.inr (.inr (.inr (fun j => some (rd j)))))))]) (r := .ref (rd j)) ⟨hx, hb, hml, hown, hts⟩ (c_X5_rowAt l D T g lo ra d0 b0 t0 r0 rd j hj) (cwV 1 hts gX5_read_X5_rowAt rfl rfl rfl (by decide +kernel) ⟨Nat.le_of_ble_eq_true rfl, Nat.le_of_ble_eq_true rfl⟩) (va_recv hK hP (ci := 2) (q0 := 0) rfl rfl) hP hK hG hS [0, 1] rfl ⟨Nat.zero_le _, Nat.zero_le _⟩ rfl hl.1 (Nat.le_of_ble_eq_true rfl) dX5_read_9 rfl ?_
  refine lv_astore (lv' := [(5, .ref (rd j)), (4, .ref (rd i)), (0, .ref lo), (1, .int (nI i)), (2, .int (nI j)), (3, .int (nI k))]) hx hb dX5_read_12 hl (by decide) rfl (fun ls hl => ?_)
  refine lv_aload_n hx hb dX5_read_14 rfl (lv_at hl 2 rfl) ?_
  refine lv_aload hx hb dX5_read_15 (lv_at hl 1 rfl) ?_
  refine lv_iload_n hx hb dX5_read_17 rfl (lv_at hl 5 rfl) ?_
  refine ro_S (As := [.int (nI k)]) (rest := [.ref (rd i), .ref lo]) (wc := []) (r := .ref (g k)) ⟨hx, hb, hml, hown, hts⟩ (c_X5_kindAt l D T g k hk) (va_cwS 1 hts gX5_read_X5_kindAt rfl rfl rfl (by decide +kernel) ⟨Nat.le_of_ble_eq_true rfl, Nat.le_of_ble_eq_true rfl⟩) hP hK hG hS [] rfl ⟨Nat.zero_le _, Nat.zero_le _⟩ rfl hl.1 (Nat.le_of_ble_eq_true rfl) dX5_read_18 rfl ?_
  refine mu_V (As := [.ref (rd i), .ref (g k)]) (rest := []) (wc := [(lo, .inr (2, [.ref ra, .ref d0, .ref b0, .ref t0, .ref r0])), (ra, .inl (T 2, 6, .inr (.inr (.inr (.inr (fun j => some (rd j))))))), (r0, .inr (1, [.ref fr, .int B0, .int hd0])), (fr, .inr (0, [.ref fq, .int (nI rn)])), (fq, .inl (T 0, 440, .inl rf)), (rd i, .inr (0, [.ref q0, .int (nI n)])), (q0, .inl (T 0, 440, .inl f))]) (wr := [(rd j, .inr (0, [.ref q1, .int (nI n1)])), (q1, .inl (T 0, 440, .inl f1))]) ⟨hx, hb, hml, hown, hts⟩ (c_X5_readOr l D T g s.heap.size lo ra d0 b0 t0 r0 rd fr fq rf rn B0 hd0 (rd i) q0 f n b (hb9) k hk hw hu) (cwV 2 hts gX5_read_X5_readOrRefuse rfl rfl rfl (by decide +kernel) ⟨Nat.le_of_ble_eq_true rfl, Nat.le_of_ble_eq_true rfl⟩) (va_recv hK hP (ci := 2) (q0 := 0) rfl rfl) hP hD hK hG hS hA [0, 1, 2, 3, 4, 5, 6] [7, 8] rfl (by decide) rfl (by decide) (by decide) ⟨Nat.le_of_ble_eq_true rfl, Nat.le_of_ble_eq_true rfl⟩ rfl hl.1 (Nat.le_of_ble_eq_true rfl) dX5_read_21 rfl (fun u H locs hq5 hP hD hS => ?_)
  obtain ⟨F2_1, nF2_2, B2_3, hd2_4⟩ := u
  have hP : va_P D cls [(rd j, .inr (0, [.ref q1, .int (nI n1)])), (q1, .inl (T 0, 440, .inl f1)), (lo, .inr (2, [.ref ra, .ref d0, .ref b0, .ref t0, .ref r0])), (ra, .inl (T 2, 6, .inr (.inr (.inr (.inr (fun j => some (rd j))))))), (r0, .inr (1, [.ref fr, .int B2_3, .int hd2_4])), (fr, .inr (0, [.ref fq, .int (nI nF2_2)])), (fq, .inl (T 0, 440, .inl F2_1)), ((rd i), .inr (0, [.ref q0, .int (nI n)])), (q0, .inl (T 0, 440, .inl f))] H := hP
  have hD : va_D A [(rd j, .inr (0, [.ref q1, .int (nI n1)])), (q1, .inl (T 0, 440, .inl f1)), (lo, .inr (2, [.ref ra, .ref d0, .ref b0, .ref t0, .ref r0])), (ra, .inl (T 2, 6, .inr (.inr (.inr (.inr (fun j => some (rd j))))))), (r0, .inr (1, [.ref fr, .int B2_3, .int hd2_4])), (fr, .inr (0, [.ref fq, .int (nI nF2_2)])), (fq, .inl (T 0, 440, .inl F2_1)), ((rd i), .inr (0, [.ref q0, .int (nI n)])), (q0, .inl (T 0, 440, .inl f))] := hD
  have hp1 : nF2_2 = lF k n b * 6 / 8 ∧ RB F2_1 nF2_2 (outB (lwF k n b)) := hq5
  refine W.eq (g2 := F0 m 24 ls []) rfl ?_
  refine lv_aload hx hb dX5_read_24 (lv_at hl 0 rfl) ?_
  refine lv_aload_n hx hb dX5_read_26 rfl (lv_at hl 2 rfl) ?_
  refine va_get (D := D) (ci := 2) (v := .ref r0) (C := RX5) (T := TX5) (N := 5) hx hb hts hi_X5 hown hK hP 2 rfl rfl 4 (by decide) (hts _ (List.mem_of_getElem? (i := 1) rfl)) (fun _ h9 => h9) rfl dX5_read_27 ?_
  refine va_getN (D := D) (ci := 1) (v := .ref fr) (C := RX1) (T := TX1) (N := 3) hx hb hts hi_X1 hown hK hP 4 rfl rfl 0 (by decide) (nx4 hG) (fun _ h9 => h9) rfl dX5_read_30 ?_
  refine mu_V (As := [.ref fr]) (rest := []) (wc := [(rd j, .inr (0, [.ref q1, .int (nI n1)])), (q1, .inl (T 0, 440, .inl f1)), (fr, .inr (0, [.ref fq, .int (nI nF2_2)])), (fq, .inl (T 0, 440, .inl F2_1))]) (wr := [(lo, .inr (2, [.ref ra, .ref d0, .ref b0, .ref t0, .ref r0])), (ra, .inl (T 2, 6, .inr (.inr (.inr (.inr (fun j => some (rd j))))))), (r0, .inr (1, [.ref fr, .int B2_3, .int hd2_4])), ((rd i), .inr (0, [.ref q0, .int (nI n)])), (q0, .inl (T 0, 440, .inl f))]) ⟨hx, hb, hml, hown, hts⟩ (c_X2_become l D T g H.size (rd j) q1 f1 n1 fr fq F2_1 nF2_2 (outB (lwF k n b)) (hp1.2)) (cwV 1 hts gX5_read_X2_become rfl rfl rfl (by decide +kernel) ⟨Nat.le_of_ble_eq_true rfl, Nat.le_of_ble_eq_true rfl⟩) (va_recv hK hP (ci := 0) (q0 := 0) rfl rfl) hP hD hK hG hS hA [0, 1, 5, 6] [2, 3, 4, 7, 8] rfl (by decide) rfl (by decide) (by decide) ⟨Nat.le_of_ble_eq_true rfl, Nat.le_of_ble_eq_true rfl⟩ rfl hl.1 (Nat.le_of_ble_eq_true rfl) dX5_read_33 rfl (fun u H locs hq7 hP hD hS => ?_)
  obtain ⟨F_6, hu9⟩ : ∃ z, z = u := ⟨_, rfl⟩
  subst hu9
  have hP : va_P D cls [(lo, .inr (2, [.ref ra, .ref d0, .ref b0, .ref t0, .ref r0])), (ra, .inl (T 2, 6, .inr (.inr (.inr (.inr (fun j => some (rd j))))))), (r0, .inr (1, [.ref fr, .int B2_3, .int hd2_4])), ((rd i), .inr (0, [.ref q0, .int (nI n)])), (q0, .inl (T 0, 440, .inl f)), ((rd j), .inr (0, [.ref q1, .int (nI nF2_2)])), (q1, .inl (T 0, 440, .inl F_6)), (fr, .inr (0, [.ref fq, .int (nI nF2_2)])), (fq, .inl (T 0, 440, .inl F2_1))] H := hP
  have hD : va_D A [(lo, .inr (2, [.ref ra, .ref d0, .ref b0, .ref t0, .ref r0])), (ra, .inl (T 2, 6, .inr (.inr (.inr (.inr (fun j => some (rd j))))))), (r0, .inr (1, [.ref fr, .int B2_3, .int hd2_4])), ((rd i), .inr (0, [.ref q0, .int (nI n)])), (q0, .inl (T 0, 440, .inl f)), ((rd j), .inr (0, [.ref q1, .int (nI nF2_2)])), (q1, .inl (T 0, 440, .inl F_6)), (fr, .inr (0, [.ref fq, .int (nI nF2_2)])), (fq, .inl (T 0, 440, .inl F2_1))] := hD
  have hp2 : RB F_6 nF2_2 (outB (lwF k n b)) := hq7
  refine W.eq (g2 := F0 m 36 ls []) rfl ?_
  refine lv_aload hx hb dX5_read_36 (lv_at hl 0 rfl) ?_
  refine va_getN (D := D) (ci := 0) (v := .int (nI nF2_2)) (C := RX2) (T := TX2) (N := 2) hx hb hts hi_X2 hown hK hP 5 rfl rfl 1 (by decide) (nx0 hG) (fun _ h9 => h9) rfl dX5_read_38 ?_
  have hP9 := hP.sub (ws' := [(lo, .inr (2, [.ref ra, .ref d0, .ref b0, .ref t0, .ref r0])), (ra, .inl (T 2, 6, .inr (.inr (.inr (.inr (fun j => some (rd j))))))), (r0, .inr (1, [.ref fr, .int B2_3, .int hd2_4])), (fr, .inr (0, [.ref fq, .int (nI nF2_2)])), (fq, .inl (T 0, 440, .inl F2_1)), ((rd i), .inr (0, [.ref q0, .int (nI n)])), (q0, .inl (T 0, 440, .inl f)), ((rd j), .inr (0, [.ref q1, .int (nI nF2_2)])), (q1, .inl (T 0, 440, .inl F_6))]) [0, 1, 2, 7, 8, 3, 4, 5, 6] rfl
  have hD9 := hD.sub (ws' := [(lo, .inr (2, [.ref ra, .ref d0, .ref b0, .ref t0, .ref r0])), (ra, .inl (T 2, 6, .inr (.inr (.inr (.inr (fun j => some (rd j))))))), (r0, .inr (1, [.ref fr, .int B2_3, .int hd2_4])), (fr, .inr (0, [.ref fq, .int (nI nF2_2)])), (fq, .inl (T 0, 440, .inl F2_1)), ((rd i), .inr (0, [.ref q0, .int (nI n)])), (q0, .inl (T 0, 440, .inl f)), ((rd j), .inr (0, [.ref q1, .int (nI nF2_2)])), (q1, .inl (T 0, 440, .inl F_6))]) [0, 1, 2, 7, 8, 3, 4, 5, 6] (by decide) rfl
  exact W.iret (v := (nI nF2_2)) hx hb hr (fun t ht hW => ⟨⟨(F2_1, nF2_2, B2_3, hd2_4, F_6), rfl, show nF2_2 = lF k n b * 6 / 8 ∧ RB F_6 nF2_2 (outB (lwF k n b)) from ⟨hp1.1, hp2⟩, (by rw [ht]; exact hP9), va_K.moved hW.alike hK, hD9⟩, hS.F ht⟩) hS.2.2 dX5_read_41
set_option maxHeartbeats 4000000 in
set_option maxRecDepth 100000 in
theorem c_read_a (l : Launch) (D : va_G) (T : Nat → ClassId) (g : Nat → Nat) (sz : Nat) (lo : Nat) (ra : Nat) (d0 : Nat) (b0 : Nat) (t0 : Nat) (r0 : Nat) (rd : Nat → Nat) (fr : Nat) (fq : Nat) (rf : Nat → Int32) (rn : Nat) (B0 : Int32) (hd0 : Int32) (i : Nat) (q0 : Nat) (f : Nat → Int32) (n : Nat) (b : Nat → Nat) (hb9 : RB f n b) (hi : i < 6) (k : Nat) (hk : k < 3) (hw : wroB k n b = false) (hu : untB k n b = false) : MU l yX5_read wsX5_read ({ frames := 5, cells := 0, slots := 0, locals := 116 } : Room) D T g [.ref lo, .int (nI i), .int (nI i), .int (nI k)] [(lo, .inr (2, [.ref ra, .ref d0, .ref b0, .ref t0, .ref r0])), (ra, .inl (T 2, 6, .inr (.inr (.inr (.inr (fun j => some (rd j))))))), (r0, .inr (1, [.ref fr, .int B0, .int hd0])), (fr, .inr (0, [.ref fq, .int (nI rn)])), (fq, .inl (T 0, 440, .inl rf)), (rd i, .inr (0, [.ref q0, .int (nI n)])), (q0, .inl (T 0, 440, .inl f))] sz (fun u : (Nat → Int32) × Nat × Int32 × Int32 × (Nat → Int32) => some (.int (nI u.2.1))) (fun u : (Nat → Int32) × Nat × Int32 × Int32 × (Nat → Int32) => u.2.1 = lF k n b * 6 / 8 ∧ RB u.2.2.2.2 u.2.1 (outB (lwF k n b))) (fun u : (Nat → Int32) × Nat × Int32 × Int32 × (Nat → Int32) => [(lo, .inr (2, [.ref ra, .ref d0, .ref b0, .ref t0, .ref r0])), (ra, .inl (T 2, 6, .inr (.inr (.inr (.inr (fun j => some (rd j))))))), (r0, .inr (1, [.ref fr, .int u.2.2.1, .int u.2.2.2.1])), (fr, .inr (0, [.ref fq, .int (nI u.2.1)])), (fq, .inl (T 0, 440, .inl u.1)), (rd i, .inr (0, [.ref q0, .int (nI u.2.1)])), (q0, .inl (T 0, 440, .inl u.2.2.2.2))]) 0 0 := by
  refine Met.ofW (cc := cX5_read) (maxL := 6) (ret := (some .int)) (by decide) rfl ?_
  intro p e s m args below meth c s₁ B hml hv
  obtain ⟨rfl, hsz, hP, hK, hD0, hG⟩ := hv
  have hx := B.exec
  have hb := B.bytes
  have hr := B.returns
  have hts := atoms_spec (ws := wsX5_read) B.pre
  have hown : s.vm.findClass RX5 = some m.cls := findClass_of_methodNamed B.named
  have hlocks := B.notSynchronized
  have hi_X1 : ∀ w ∈ wsX10, w ∈ wsX5_read := by decide +kernel
  have hi_X2 : ∀ w ∈ wsX20, w ∈ wsX5_read := by decide +kernel
  have hi_X5 : ∀ w ∈ wsX50, w ∈ wsX5_read := by decide +kernel
  subst hsz
  have hD := hD0.self (sz := s.heap.size)
  generalize hAe : va_A [(lo, .inr (2, [.ref ra, .ref d0, .ref b0, .ref t0, .ref r0])), (ra, .inl (T 2, 6, .inr (.inr (.inr (.inr (fun j => some (rd j))))))), (r0, .inr (1, [.ref fr, .int B0, .int hd0])), (fr, .inr (0, [.ref fq, .int (nI rn)])), (fq, .inl (T 0, 440, .inl rf)), (rd i, .inr (0, [.ref q0, .int (nI n)])), (q0, .inl (T 0, 440, .inl f))] s.heap.size = A at hD hG ⊢
  have hA : ∀ q : Nat, s.heap.size ≤ q → A q := fun q h => by rw [← hAe]; exact Or.inr h
  have hS : va_S A s.heap s.heap [] := va_S.rf
  have hP : va_P D cls [(lo, .inr (2, [.ref ra, .ref d0, .ref b0, .ref t0, .ref r0])), (ra, .inl (T 2, 6, .inr (.inr (.inr (.inr (fun j => some (rd j))))))), (r0, .inr (1, [.ref fr, .int B0, .int hd0])), (fr, .inr (0, [.ref fq, .int (nI rn)])), (fq, .inl (T 0, 440, .inl rf)), (rd i, .inr (0, [.ref q0, .int (nI n)])), (q0, .inl (T 0, 440, .inl f))] s.heap := hP
  have hl := lv_entry ([.ref lo, .int (nI i), .int (nI i), .int (nI k)]) (n := 6) (Nat.le_of_ble_eq_true rfl)
  rw [lg_entry_eq]
  generalize (lg_sl ([.ref lo, .int (nI i), .int (nI i), .int (nI k)]) ++ List.replicate (6 - (lg_sl ([.ref lo, .int (nI i), .int (nI i), .int (nI k)])).length) Slot.unset).toArray = ls at hl ⊢
  have hl : lv_has ls 6 [(0, .ref lo), (1, .int (nI i)), (2, .int (nI i)), (3, .int (nI k))] := hl
  refine lv_aload_n hx hb dX5_read_0 rfl (lv_at hl 0 rfl) ?_
  refine lv_iload_n hx hb dX5_read_1 rfl (lv_at hl 1 rfl) ?_
  refine ro_V (As := [.int (nI i)]) (rest := []) (wc := [(lo, .inr (2, [.ref ra, .ref d0, .ref b0, .ref t0, .ref r0])), (ra, .inl (T 2, 6, .inr (.inr (.inr (.inr (fun j => some (rd j)))))))]) (r := .ref (rd i)) ⟨hx, hb, hml, hown, hts⟩ (c_X5_rowAt l D T g lo ra d0 b0 t0 r0 rd i hi) (cwV 1 hts gX5_read_X5_rowAt rfl rfl rfl (by decide +kernel) ⟨Nat.le_of_ble_eq_true rfl, Nat.le_of_ble_eq_true rfl⟩) (va_recv hK hP (ci := 2) (q0 := 0) rfl rfl) hP hK hG hS [0, 1] rfl ⟨Nat.zero_le _, Nat.zero_le _⟩ rfl hl.1 (Nat.le_of_ble_eq_true rfl) dX5_read_2 rfl ?_
  refine lv_astore (lv' := [(4, .ref (rd i)), (0, .ref lo), (1, .int (nI i)), (2, .int (nI i)), (3, .int (nI k))]) hx hb dX5_read_5 hl (by decide) rfl (fun ls hl => ?_)
  refine lv_aload_n hx hb dX5_read_7 rfl (lv_at hl 1 rfl) ?_
  refine lv_iload_n hx hb dX5_read_8 rfl (lv_at hl 3 rfl) ?_
  refine ro_V (As := [.int (nI i)]) (rest := []) (wc := [(lo, .inr (2, [.ref ra, .ref d0, .ref b0, .ref t0, .ref r0])), (ra, .inl (T 2, 6, .inr (.inr (.inr (.inr (fun j => some (rd j)))))))]) (r := .ref (rd i)) ⟨hx, hb, hml, hown, hts⟩ (c_X5_rowAt l D T g lo ra d0 b0 t0 r0 rd i hi) (cwV 1 hts gX5_read_X5_rowAt rfl rfl rfl (by decide +kernel) ⟨Nat.le_of_ble_eq_true rfl, Nat.le_of_ble_eq_true rfl⟩) (va_recv hK hP (ci := 2) (q0 := 0) rfl rfl) hP hK hG hS [0, 1] rfl ⟨Nat.zero_le _, Nat.zero_le _⟩ rfl hl.1 (Nat.le_of_ble_eq_true rfl) dX5_read_9 rfl ?_
  refine lv_astore (lv' := [(5, .ref (rd i)), (4, .ref (rd i)), (0, .ref lo), (1, .int (nI i)), (2, .int (nI i)), (3, .int (nI k))]) hx hb dX5_read_12 hl (by decide) rfl (fun ls hl => ?_)
  refine lv_aload_n hx hb dX5_read_14 rfl (lv_at hl 2 rfl) ?_
  refine lv_aload hx hb dX5_read_15 (lv_at hl 1 rfl) ?_
  refine lv_iload_n hx hb dX5_read_17 rfl (lv_at hl 5 rfl) ?_
  refine ro_S (As := [.int (nI k)]) (rest := [.ref (rd i), .ref lo]) (wc := []) (r := .ref (g k)) ⟨hx, hb, hml, hown, hts⟩ (c_X5_kindAt l D T g k hk) (va_cwS 1 hts gX5_read_X5_kindAt rfl rfl rfl (by decide +kernel) ⟨Nat.le_of_ble_eq_true rfl, Nat.le_of_ble_eq_true rfl⟩) hP hK hG hS [] rfl ⟨Nat.zero_le _, Nat.zero_le _⟩ rfl hl.1 (Nat.le_of_ble_eq_true rfl) dX5_read_18 rfl ?_
  refine mu_V (As := [.ref (rd i), .ref (g k)]) (rest := []) (wc := [(lo, .inr (2, [.ref ra, .ref d0, .ref b0, .ref t0, .ref r0])), (ra, .inl (T 2, 6, .inr (.inr (.inr (.inr (fun j => some (rd j))))))), (r0, .inr (1, [.ref fr, .int B0, .int hd0])), (fr, .inr (0, [.ref fq, .int (nI rn)])), (fq, .inl (T 0, 440, .inl rf)), (rd i, .inr (0, [.ref q0, .int (nI n)])), (q0, .inl (T 0, 440, .inl f))]) (wr := []) ⟨hx, hb, hml, hown, hts⟩ (c_X5_readOr l D T g s.heap.size lo ra d0 b0 t0 r0 rd fr fq rf rn B0 hd0 (rd i) q0 f n b (hb9) k hk hw hu) (cwV 2 hts gX5_read_X5_readOrRefuse rfl rfl rfl (by decide +kernel) ⟨Nat.le_of_ble_eq_true rfl, Nat.le_of_ble_eq_true rfl⟩) (va_recv hK hP (ci := 2) (q0 := 0) rfl rfl) hP hD hK hG hS hA [0, 1, 2, 3, 4, 5, 6] [] rfl (by decide) rfl (by decide) (by decide) ⟨Nat.le_of_ble_eq_true rfl, Nat.le_of_ble_eq_true rfl⟩ rfl hl.1 (Nat.le_of_ble_eq_true rfl) dX5_read_21 rfl (fun u H locs hq5 hP hD hS => ?_)
  obtain ⟨F2_1, nF2_2, B2_3, hd2_4⟩ := u
  have hP : va_P D cls [(lo, .inr (2, [.ref ra, .ref d0, .ref b0, .ref t0, .ref r0])), (ra, .inl (T 2, 6, .inr (.inr (.inr (.inr (fun j => some (rd j))))))), (r0, .inr (1, [.ref fr, .int B2_3, .int hd2_4])), (fr, .inr (0, [.ref fq, .int (nI nF2_2)])), (fq, .inl (T 0, 440, .inl F2_1)), ((rd i), .inr (0, [.ref q0, .int (nI n)])), (q0, .inl (T 0, 440, .inl f))] H := hP
  have hD : va_D A [(lo, .inr (2, [.ref ra, .ref d0, .ref b0, .ref t0, .ref r0])), (ra, .inl (T 2, 6, .inr (.inr (.inr (.inr (fun j => some (rd j))))))), (r0, .inr (1, [.ref fr, .int B2_3, .int hd2_4])), (fr, .inr (0, [.ref fq, .int (nI nF2_2)])), (fq, .inl (T 0, 440, .inl F2_1)), ((rd i), .inr (0, [.ref q0, .int (nI n)])), (q0, .inl (T 0, 440, .inl f))] := hD
  have hp1 : nF2_2 = lF k n b * 6 / 8 ∧ RB F2_1 nF2_2 (outB (lwF k n b)) := hq5
  refine W.eq (g2 := F0 m 24 ls []) rfl ?_
  refine lv_aload hx hb dX5_read_24 (lv_at hl 0 rfl) ?_
  refine lv_aload_n hx hb dX5_read_26 rfl (lv_at hl 2 rfl) ?_
  refine va_get (D := D) (ci := 2) (v := .ref r0) (C := RX5) (T := TX5) (N := 5) hx hb hts hi_X5 hown hK hP 0 rfl rfl 4 (by decide) (hts _ (List.mem_of_getElem? (i := 1) rfl)) (fun _ h9 => h9) rfl dX5_read_27 ?_
  refine va_getN (D := D) (ci := 1) (v := .ref fr) (C := RX1) (T := TX1) (N := 3) hx hb hts hi_X1 hown hK hP 2 rfl rfl 0 (by decide) (nx4 hG) (fun _ h9 => h9) rfl dX5_read_30 ?_
  refine mu_V (As := [.ref fr]) (rest := []) (wc := [((rd i), .inr (0, [.ref q0, .int (nI n)])), (q0, .inl (T 0, 440, .inl f)), (fr, .inr (0, [.ref fq, .int (nI nF2_2)])), (fq, .inl (T 0, 440, .inl F2_1))]) (wr := [(lo, .inr (2, [.ref ra, .ref d0, .ref b0, .ref t0, .ref r0])), (ra, .inl (T 2, 6, .inr (.inr (.inr (.inr (fun j => some (rd j))))))), (r0, .inr (1, [.ref fr, .int B2_3, .int hd2_4]))]) ⟨hx, hb, hml, hown, hts⟩ (c_X2_become l D T g H.size (rd i) q0 f n fr fq F2_1 nF2_2 (outB (lwF k n b)) (hp1.2)) (cwV 1 hts gX5_read_X2_become rfl rfl rfl (by decide +kernel) ⟨Nat.le_of_ble_eq_true rfl, Nat.le_of_ble_eq_true rfl⟩) (va_recv hK hP (ci := 0) (q0 := 5) rfl rfl) hP hD hK hG hS hA [5, 6, 3, 4] [0, 1, 2] rfl (by decide) rfl (by decide) (by decide) ⟨Nat.le_of_ble_eq_true rfl, Nat.le_of_ble_eq_true rfl⟩ rfl hl.1 (Nat.le_of_ble_eq_true rfl) dX5_read_33 rfl (fun u H locs hq7 hP hD hS => ?_)
  obtain ⟨F_6, hu9⟩ : ∃ z, z = u := ⟨_, rfl⟩
  subst hu9
  have hP : va_P D cls [(lo, .inr (2, [.ref ra, .ref d0, .ref b0, .ref t0, .ref r0])), (ra, .inl (T 2, 6, .inr (.inr (.inr (.inr (fun j => some (rd j))))))), (r0, .inr (1, [.ref fr, .int B2_3, .int hd2_4])), ((rd i), .inr (0, [.ref q0, .int (nI nF2_2)])), (q0, .inl (T 0, 440, .inl F_6)), (fr, .inr (0, [.ref fq, .int (nI nF2_2)])), (fq, .inl (T 0, 440, .inl F2_1))] H := hP
  have hD : va_D A [(lo, .inr (2, [.ref ra, .ref d0, .ref b0, .ref t0, .ref r0])), (ra, .inl (T 2, 6, .inr (.inr (.inr (.inr (fun j => some (rd j))))))), (r0, .inr (1, [.ref fr, .int B2_3, .int hd2_4])), ((rd i), .inr (0, [.ref q0, .int (nI nF2_2)])), (q0, .inl (T 0, 440, .inl F_6)), (fr, .inr (0, [.ref fq, .int (nI nF2_2)])), (fq, .inl (T 0, 440, .inl F2_1))] := hD
  have hp2 : RB F_6 nF2_2 (outB (lwF k n b)) := hq7
  refine W.eq (g2 := F0 m 36 ls []) rfl ?_
  refine lv_aload hx hb dX5_read_36 (lv_at hl 0 rfl) ?_
  refine va_getN (D := D) (ci := 0) (v := .int (nI nF2_2)) (C := RX2) (T := TX2) (N := 2) hx hb hts hi_X2 hown hK hP 3 rfl rfl 1 (by decide) (nx0 hG) (fun _ h9 => h9) rfl dX5_read_38 ?_
  have hP9 := hP.sub (ws' := [(lo, .inr (2, [.ref ra, .ref d0, .ref b0, .ref t0, .ref r0])), (ra, .inl (T 2, 6, .inr (.inr (.inr (.inr (fun j => some (rd j))))))), (r0, .inr (1, [.ref fr, .int B2_3, .int hd2_4])), (fr, .inr (0, [.ref fq, .int (nI nF2_2)])), (fq, .inl (T 0, 440, .inl F2_1)), ((rd i), .inr (0, [.ref q0, .int (nI nF2_2)])), (q0, .inl (T 0, 440, .inl F_6))]) [0, 1, 2, 5, 6, 3, 4] rfl
  have hD9 := hD.sub (ws' := [(lo, .inr (2, [.ref ra, .ref d0, .ref b0, .ref t0, .ref r0])), (ra, .inl (T 2, 6, .inr (.inr (.inr (.inr (fun j => some (rd j))))))), (r0, .inr (1, [.ref fr, .int B2_3, .int hd2_4])), (fr, .inr (0, [.ref fq, .int (nI nF2_2)])), (fq, .inl (T 0, 440, .inl F2_1)), ((rd i), .inr (0, [.ref q0, .int (nI nF2_2)])), (q0, .inl (T 0, 440, .inl F_6))]) [0, 1, 2, 5, 6, 3, 4] (by decide) rfl
  exact W.iret (v := (nI nF2_2)) hx hb hr (fun t ht hW => ⟨⟨(F2_1, nF2_2, B2_3, hd2_4, F_6), rfl, show nF2_2 = lF k n b * 6 / 8 ∧ RB F_6 nF2_2 (outB (lwF k n b)) from ⟨hp1.1, hp2⟩, (by rw [ht]; exact hP9), va_K.moved hW.alike hK, hD9⟩, hS.F ht⟩) hS.2.2 dX5_read_41
