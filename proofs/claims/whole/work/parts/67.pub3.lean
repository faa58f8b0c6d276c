set_option maxHeartbeats 4000000 in
set_option maxRecDepth 100000 in
theorem m_plain_6 (l : Launch) (D : va_G) (T : Nat → ClassId) (g : Nat → Nat) (sz : Nat) (m0 : Nat) (mb : Nat) (ml : Nat) (mm : Nat) (mk : Nat) (many : Nat) (th : Int32) (fb : Nat → Int32) (fl : Nat → Int32) (fm : Nat → Int32) (fk : Nat → Int32) (N : Nat → Nat) (Bw : Nat → Nat → Nat) (hMR : MR fl fb N Bw) (i : Nat) (hi : i < 6) (k : Nat) (hk : k < 3) (hw : wroB k (N i) (Bw i) = false) (hu : untB k (N i) (Bw i) = false) (hm : 320 < lnN k (lF k (N i) (Bw i) * 6 / 8) 1) : MU l yX6_plain wsX6_plain ({ frames := 60, cells := 0, slots := 0, locals := 3000 } : Room) D T g [.ref m0, .int (nI i), .int (nI k)] [(m0, .inr (3, [.ref mb, .ref ml, .ref mm, .int (nI many), .int th, .ref mk])), (mb, .inl (T 0, 1920, .inl fb)), (ml, .inl (T 0, 6, .inl fl)), (mm, .inl (T 0, 600, .inl fm)), (mk, .inl (T 0, 320, .inl fk))] sz (fun u : Nat × Int32 × (Nat → Int32) × (Nat → Int32) × (Nat → Int32) × (Nat → Int32) => some (.int (nI 0))) (fun u : Nat × Int32 × (Nat → Int32) × (Nat → Int32) × (Nat → Int32) × (Nat → Int32) => u.2.1 = nI 4 ∧ MR u.2.2.2.1 u.2.2.1 (N) (Bw)) (fun u : Nat × Int32 × (Nat → Int32) × (Nat → Int32) × (Nat → Int32) × (Nat → Int32) => [(m0, .inr (3, [.ref mb, .ref ml, .ref mm, .int (nI u.1), .int u.2.1, .ref mk])), (mb, .inl (T 0, 1920, .inl u.2.2.1)), (ml, .inl (T 0, 6, .inl u.2.2.2.1)), (mm, .inl (T 0, 600, .inl u.2.2.2.2.1)), (mk, .inl (T 0, 320, .inl u.2.2.2.2.2))]) 0 0 := by
  refine Met.ofW (cc := cX6_plain) (maxL := 4) (ret := (some .int)) (by decide) rfl ?_
  intro p e s m args below meth c s₁ B hml hv
  obtain ⟨rfl, hsz, hP, hK, hD0, hG⟩ := hv
  have hx := B.exec
  have hb := B.bytes
  have hr := B.returns
  have hts := atoms_spec (ws := wsX6_plain) B.pre
  have hown : s.vm.findClass RX6 = some m.cls := findClass_of_methodNamed B.named
  have hlocks := B.notSynchronized
  have hi_X6 : ∀ w ∈ wsX60, w ∈ wsX6_plain := by decide +kernel
  subst hsz
  have hD := hD0.self (sz := s.heap.size)
  generalize hAe : va_A [(m0, .inr (3, [.ref mb, .ref ml, .ref mm, .int (nI many), .int th, .ref mk])), (mb, .inl (T 0, 1920, .inl fb)), (ml, .inl (T 0, 6, .inl fl)), (mm, .inl (T 0, 600, .inl fm)), (mk, .inl (T 0, 320, .inl fk))] s.heap.size = A at hD hG ⊢
  have hA : ∀ q : Nat, s.heap.size ≤ q → A q := fun q h => by rw [← hAe]; exact Or.inr h
  have hS : va_S A s.heap s.heap [] := va_S.rf
  have hP : va_P D cls [(m0, .inr (3, [.ref mb, .ref ml, .ref mm, .int (nI many), .int th, .ref mk])), (mb, .inl (T 0, 1920, .inl fb)), (ml, .inl (T 0, 6, .inl fl)), (mm, .inl (T 0, 600, .inl fm)), (mk, .inl (T 0, 320, .inl fk))] s.heap := hP
  have hl := lv_entry ([.ref m0, .int (nI i), .int (nI k)]) (n := 4) (Nat.le_of_ble_eq_true rfl)
  rw [lg_entry_eq]
  generalize (lg_sl ([.ref m0, .int (nI i), .int (nI k)]) ++ List.replicate (4 - (lg_sl ([.ref m0, .int (nI i), .int (nI k)])).length) Slot.unset).toArray = ls at hl ⊢
  have hl : lv_has ls 4 [(0, .ref m0), (1, .int (nI i)), (2, .int (nI k))] := hl
  have hrow := hMR i hi
  have hn := hrow.2.1
  have hz9 := l9_le (k := k) (b := Bw i) (n := N i) (by omega)
  have hle := lnN_le (k := k) (n := lF k (N i) (Bw i) * 6 / 8) (fl := 1) (by omega)
  refine lv_aload_n hx hb dX6_plain_0 rfl (lv_at hl 0 rfl) ?_
  refine lv_aload_n hx hb dX6_plain_1 rfl (lv_at hl 0 rfl) ?_
  refine lv_iload_n hx hb dX6_plain_2 rfl (lv_at hl 1 rfl) ?_
  refine ro_V (As := [.int (nI i)]) (rest := [.ref m0]) (wc := []) (r := .int (nI 1)) ⟨hx, hb, hml, hown, hts⟩ (c_X6_isRow_y l D T g m0 i (by omega)) (cwV 1 hts gX6_plain_X6_isRow rfl rfl rfl (by decide +kernel) ⟨Nat.le_of_ble_eq_true rfl, Nat.le_of_ble_eq_true rfl⟩) (va_recv hK hP (ci := 3) (q0 := 0) rfl rfl) hP hK hG hS [] rfl ⟨Nat.zero_le _, Nat.zero_le _⟩ rfl hl.1 (Nat.le_of_ble_eq_true rfl) dX6_plain_3 rfl ?_
  refine ln_if_ne_t (tgt := 13) hx hb (by omega) (by decide) dX6_plain_6 (by decide) ?_
  refine lv_aload_n hx hb dX6_plain_13 rfl (lv_at hl 0 rfl) ?_
  refine lv_iload_n hx hb dX6_plain_14 rfl (lv_at hl 2 rfl) ?_
  refine ro_V (As := [.int (nI k)]) (rest := [.ref m0]) (wc := []) (r := .int (nI 1)) ⟨hx, hb, hml, hown, hts⟩ (c_X6_isKind_y l D T g m0 k (by omega)) (cwV 1 hts gX6_plain_X6_isKind rfl rfl rfl (by decide +kernel) ⟨Nat.le_of_ble_eq_true rfl, Nat.le_of_ble_eq_true rfl⟩) (va_recv hK hP (ci := 3) (q0 := 0) rfl rfl) hP hK hG hS [] rfl ⟨Nat.zero_le _, Nat.zero_le _⟩ rfl hl.1 (Nat.le_of_ble_eq_true rfl) dX6_plain_15 rfl ?_
  refine ln_if_ne_t (tgt := 25) hx hb (by omega) (by decide) dX6_plain_18 (by decide) ?_
  refine lv_iconst (v := (nI 0)) hx hb dX6_plain_25 (by decide +kernel) ?_
  refine mu_V (As := [.int (nI 0)]) (rest := []) (wc := [(m0, .inr (3, [.ref mb, .ref ml, .ref mm, .int (nI many), .int th, .ref mk]))]) (wr := [(mb, .inl (T 0, 1920, .inl fb)), (ml, .inl (T 0, 6, .inl fl)), (mm, .inl (T 0, 600, .inl fm)), (mk, .inl (T 0, 320, .inl fk))]) ⟨hx, hb, hml, hown, hts⟩ (c_X6_isWrong_0 l D T g s.heap.size m0 mb ml mm mk many th) (cwV 1 hts gX6_plain_X6_isWrong rfl rfl rfl (by decide +kernel) ⟨Nat.le_of_ble_eq_true rfl, Nat.le_of_ble_eq_true rfl⟩) (va_recv hK hP (ci := 3) (q0 := 0) rfl rfl) hP hD hK hG hS hA [0] [1, 2, 3, 4] rfl (by decide) rfl (by decide) (by decide) ⟨Nat.le_of_ble_eq_true rfl, Nat.le_of_ble_eq_true rfl⟩ rfl hl.1 (Nat.le_of_ble_eq_true rfl) dX6_plain_26 rfl (fun u H locs hq1 hP hD hS => ?_)
  have hP : va_P D cls [(mb, .inl (T 0, 1920, .inl fb)), (ml, .inl (T 0, 6, .inl fl)), (mm, .inl (T 0, 600, .inl fm)), (mk, .inl (T 0, 320, .inl fk)), (m0, .inr (3, [.ref mb, .ref ml, .ref mm, .int (nI many), .int (nI 0), .ref mk]))] H := hP
  have hD : va_D A [(mb, .inl (T 0, 1920, .inl fb)), (ml, .inl (T 0, 6, .inl fl)), (mm, .inl (T 0, 600, .inl fm)), (mk, .inl (T 0, 320, .inl fk)), (m0, .inr (3, [.ref mb, .ref ml, .ref mm, .int (nI many), .int (nI 0), .ref mk]))] := hD
  refine W.eq (g2 := F0 m 29 ls [.int (nI 0)]) rfl ?_
  refine ln_if_eq_t (tgt := 34) hx hb (by omega) (by decide) dX6_plain_29 (by decide) ?_
  refine lv_aload_n hx hb dX6_plain_34 rfl (lv_at hl 0 rfl) ?_
  refine lv_iload_n hx hb dX6_plain_35 rfl (lv_at hl 1 rfl) ?_
  refine lv_iload_n hx hb dX6_plain_36 rfl (lv_at hl 2 rfl) ?_
  refine ro_V (As := [.int (nI i), .int (nI k)]) (rest := []) (wc := [(m0, .inr (3, [.ref mb, .ref ml, .ref mm, .int (nI many), .int (nI 0), .ref mk])), (ml, .inl (T 0, 6, .inl fl)), (mb, .inl (T 0, 1920, .inl fb))]) (r := .int (tlI k (N i) (Bw i))) ⟨hx, hb, hml, hown, hts⟩ (c_X6_looks l D T g m0 mb ml mm mk many (nI 0) fb fl i (N i) (Bw i) hi ((hMR i hi).1) ((hMR i hi).2) k hk) (cwV 2 hts gX6_plain_X6_looks rfl rfl rfl (by decide +kernel) ⟨Nat.le_of_ble_eq_true rfl, Nat.le_of_ble_eq_true rfl⟩) (va_recv hK hP (ci := 3) (q0 := 4) rfl rfl) hP hK hG hS [4, 1, 0] rfl ⟨Nat.zero_le _, Nat.zero_le _⟩ rfl hl.1 (Nat.le_of_ble_eq_true rfl) dX6_plain_37 rfl ?_
  rw [tl_good hw hu]
  refine lv_istore_n (lv' := [(3, .int (nI (lF k (N i) (Bw i) * 6 / 8))), (0, .ref m0), (1, .int (nI i)), (2, .int (nI k))]) hx hb dX6_plain_40 rfl hl (by decide) rfl (fun ls hl => ?_)
  refine lv_aload_n hx hb dX6_plain_41 rfl (lv_at hl 1 rfl) ?_
  refine lv_iload_n hx hb dX6_plain_42 rfl (lv_at hl 0 rfl) ?_
  refine lv_iconst (v := (-1)) hx hb dX6_plain_43 (by decide +kernel) ?_
  refine lv_icmp_ne (tgt := 51) hx hb dX6_plain_44 (by decide) (fun _ => ?_) (fun q9 => absurd q9 ((nI_nm (by omega)).1))
  refine lv_iload_n hx hb dX6_plain_51 rfl (lv_at hl 0 rfl) ?_
  refine lv_bipush (v := (-2)) hx hb dX6_plain_52 (by decide +kernel) ?_
  refine lv_icmp_ne (tgt := 61) hx hb dX6_plain_54 (by decide) (fun _ => ?_) (fun q9 => absurd q9 ((nI_nm (by omega)).2))
  refine lv_iconst (v := (nI 0)) hx hb dX6_plain_61 (by decide +kernel) ?_
  refine mu_V (As := [.int (nI 0)]) (rest := []) (wc := [(m0, .inr (3, [.ref mb, .ref ml, .ref mm, .int (nI many), .int (nI 0), .ref mk]))]) (wr := [(mb, .inl (T 0, 1920, .inl fb)), (ml, .inl (T 0, 6, .inl fl)), (mm, .inl (T 0, 600, .inl fm)), (mk, .inl (T 0, 320, .inl fk))]) ⟨hx, hb, hml, hown, hts⟩ (c_X6_isWrong_0 l D T g H.size m0 mb ml mm mk many (nI 0)) (cwV 1 hts gX6_plain_X6_isWrong rfl rfl rfl (by decide +kernel) ⟨Nat.le_of_ble_eq_true rfl, Nat.le_of_ble_eq_true rfl⟩) (va_recv hK hP (ci := 3) (q0 := 4) rfl rfl) hP hD hK hG hS hA [4] [0, 1, 2, 3] rfl (by decide) rfl (by decide) (by decide) ⟨Nat.le_of_ble_eq_true rfl, Nat.le_of_ble_eq_true rfl⟩ rfl hl.1 (Nat.le_of_ble_eq_true rfl) dX6_plain_62 rfl (fun u H locs hq2 hP hD hS => ?_)
  have hP : va_P D cls [(mb, .inl (T 0, 1920, .inl fb)), (ml, .inl (T 0, 6, .inl fl)), (mm, .inl (T 0, 600, .inl fm)), (mk, .inl (T 0, 320, .inl fk)), (m0, .inr (3, [.ref mb, .ref ml, .ref mm, .int (nI many), .int (nI 0), .ref mk]))] H := hP
  have hD : va_D A [(mb, .inl (T 0, 1920, .inl fb)), (ml, .inl (T 0, 6, .inl fl)), (mm, .inl (T 0, 600, .inl fm)), (mk, .inl (T 0, 320, .inl fk)), (m0, .inr (3, [.ref mb, .ref ml, .ref mm, .int (nI many), .int (nI 0), .ref mk]))] := hD
  refine W.eq (g2 := F0 m 65 ls [.int (nI 0)]) rfl ?_
  refine ln_if_eq_t (tgt := 70) hx hb (by omega) (by decide) dX6_plain_65 (by decide) ?_
  refine lv_aload_n hx hb dX6_plain_70 rfl (lv_at hl 1 rfl) ?_
  refine lv_iload_n hx hb dX6_plain_71 rfl (lv_at hl 2 rfl) ?_
  refine lv_iload_n hx hb dX6_plain_72 rfl (lv_at hl 3 rfl) ?_
  refine lv_iload_n hx hb dX6_plain_73 rfl (lv_at hl 0 rfl) ?_
  refine lv_iconst (v := (nI 1)) hx hb dX6_plain_74 (by decide +kernel) ?_
  refine mu_V (As := [.int (nI i), .int (nI k), .int (nI (lF k (N i) (Bw i) * 6 / 8)), .int (nI 1)]) (rest := []) (wc := [(m0, .inr (3, [.ref mb, .ref ml, .ref mm, .int (nI many), .int (nI 0), .ref mk])), (mb, .inl (T 0, 1920, .inl fb)), (ml, .inl (T 0, 6, .inl fl)), (mm, .inl (T 0, 600, .inl fm)), (mk, .inl (T 0, 320, .inl fk))]) (wr := []) ⟨hx, hb, hml, hown, hts⟩ (c_X6_again l D T g H.size m0 mb ml mm mk many (nI 0) fb fl fm fk N Bw i hi (hMR) k hk (lF k (N i) (Bw i) * 6 / 8) (hu) (rfl) 1 (by omega)) (cwV 4 hts gX6_plain_X6_again rfl rfl rfl (by decide +kernel) ⟨Nat.le_of_ble_eq_true rfl, Nat.le_of_ble_eq_true rfl⟩) (va_recv hK hP (ci := 3) (q0 := 4) rfl rfl) hP hD hK hG hS hA [4, 0, 1, 2, 3] [] rfl (by decide) rfl (by decide) (by decide) ⟨Nat.le_of_ble_eq_true rfl, Nat.le_of_ble_eq_true rfl⟩ rfl hl.1 (Nat.le_of_ble_eq_true rfl) dX6_plain_75 rfl (fun u H locs hq7 hP hD hS => ?_)
  obtain ⟨G1_3, G2_4, G3_5, G4_6⟩ := u
  have hP : va_P D cls [(m0, .inr (3, [.ref mb, .ref ml, .ref mm, .int (nI (lnN k (lF k (N i) (Bw i) * 6 / 8) 1)), .int (nI 0), .ref mk])), (mb, .inl (T 0, 1920, .inl G2_4)), (ml, .inl (T 0, 6, .inl G1_3)), (mm, .inl (T 0, 600, .inl G3_5)), (mk, .inl (T 0, 320, .inl G4_6))] H := hP
  have hD : va_D A [(m0, .inr (3, [.ref mb, .ref ml, .ref mm, .int (nI (lnN k (lF k (N i) (Bw i) * 6 / 8) 1)), .int (nI 0), .ref mk])), (mb, .inl (T 0, 1920, .inl G2_4)), (ml, .inl (T 0, 6, .inl G1_3)), (mm, .inl (T 0, 600, .inl G3_5)), (mk, .inl (T 0, 320, .inl G4_6))] := hD
  have hp1 : MR G1_3 G2_4 N Bw ∧ MD G3_5 (lnN k (lF k (N i) (Bw i) * 6 / 8) 1) (wrA k (lF k (N i) (Bw i) * 6 / 8) (outB (lwF k (N i) (Bw i)))) := hq7
  refine W.eq (g2 := F0 m 78 ls []) rfl ?_
  refine lv_aload_n hx hb dX6_plain_78 rfl (lv_at hl 1 rfl) ?_
  refine lv_aload_n hx hb dX6_plain_79 rfl (lv_at hl 1 rfl) ?_
  refine va_get (D := D) (ci := 3) (v := .int (nI (lnN k (lF k (N i) (Bw i) * 6 / 8) 1))) (C := RX6) (T := TX6) (N := 6) hx hb hts hi_X6 hown hK hP 0 rfl rfl 3 (by decide) (hts _ (List.mem_of_getElem? (i := 1) rfl)) (fun _ h9 => h9) rfl dX6_plain_80 ?_
  refine lv_sipush (v := (nI 320)) hx hb dX6_plain_83 (by decide +kernel) ?_
  refine ln_icmp_le_f (tgt := 93) hx hb ⟨by omega, by omega⟩ (by omega) dX6_plain_86 (by decide) ?_
  refine lv_iconst (v := (nI 4)) hx hb dX6_plain_89 (by decide +kernel) ?_
  refine lv_goto (tgt := 94) hx hb dX6_plain_90 (by decide) ?_
  refine mu_V (As := [.int (nI 4)]) (rest := []) (wc := [(m0, .inr (3, [.ref mb, .ref ml, .ref mm, .int (nI (lnN k (lF k (N i) (Bw i) * 6 / 8) 1)), .int (nI 0), .ref mk]))]) (wr := [(mb, .inl (T 0, 1920, .inl G2_4)), (ml, .inl (T 0, 6, .inl G1_3)), (mm, .inl (T 0, 600, .inl G3_5)), (mk, .inl (T 0, 320, .inl G4_6))]) ⟨hx, hb, hml, hown, hts⟩ (c_X6_isWrong_p l D T g H.size m0 mb ml mm mk (lnN k (lF k (N i) (Bw i) * 6 / 8) 1) (nI 0) 4 (by omega)) (cwV 1 hts gX6_plain_X6_isWrong rfl rfl rfl (by decide +kernel) ⟨Nat.le_of_ble_eq_true rfl, Nat.le_of_ble_eq_true rfl⟩) (va_recv hK hP (ci := 3) (q0 := 0) rfl rfl) hP hD hK hG hS hA [0] [1, 2, 3, 4] rfl (by decide) rfl (by decide) (by decide) ⟨Nat.le_of_ble_eq_true rfl, Nat.le_of_ble_eq_true rfl⟩ rfl hl.1 (Nat.le_of_ble_eq_true rfl) dX6_plain_94 rfl (fun u H locs hq8 hP hD hS => ?_)
  have hP : va_P D cls [(mb, .inl (T 0, 1920, .inl G2_4)), (ml, .inl (T 0, 6, .inl G1_3)), (mm, .inl (T 0, 600, .inl G3_5)), (mk, .inl (T 0, 320, .inl G4_6)), (m0, .inr (3, [.ref mb, .ref ml, .ref mm, .int (nI (lnN k (lF k (N i) (Bw i) * 6 / 8) 1)), .int (nI 4), .ref mk]))] H := hP
  have hD : va_D A [(mb, .inl (T 0, 1920, .inl G2_4)), (ml, .inl (T 0, 6, .inl G1_3)), (mm, .inl (T 0, 600, .inl G3_5)), (mk, .inl (T 0, 320, .inl G4_6)), (m0, .inr (3, [.ref mb, .ref ml, .ref mm, .int (nI (lnN k (lF k (N i) (Bw i) * 6 / 8) 1)), .int (nI 4), .ref mk]))] := hD
  refine W.eq (g2 := F0 m 97 ls [.int (nI 1)]) rfl ?_
  refine ln_if_eq_f (tgt := 104) hx hb (by omega) (by decide) dX6_plain_97 (by decide) ?_
  refine lv_iconst (v := (nI 0)) hx hb dX6_plain_100 (by decide +kernel) ?_
  refine lv_goto (tgt := 109) hx hb dX6_plain_101 (by decide) ?_
  have hP9 := hP.sub (ws' := [(m0, .inr (3, [.ref mb, .ref ml, .ref mm, .int (nI (lnN k (lF k (N i) (Bw i) * 6 / 8) 1)), .int (nI 4), .ref mk])), (mb, .inl (T 0, 1920, .inl G2_4)), (ml, .inl (T 0, 6, .inl G1_3)), (mm, .inl (T 0, 600, .inl G3_5)), (mk, .inl (T 0, 320, .inl G4_6))]) [4, 0, 1, 2, 3] rfl
  have hD9 := hD.sub (ws' := [(m0, .inr (3, [.ref mb, .ref ml, .ref mm, .int (nI (lnN k (lF k (N i) (Bw i) * 6 / 8) 1)), .int (nI 4), .ref mk])), (mb, .inl (T 0, 1920, .inl G2_4)), (ml, .inl (T 0, 6, .inl G1_3)), (mm, .inl (T 0, 600, .inl G3_5)), (mk, .inl (T 0, 320, .inl G4_6))]) [4, 0, 1, 2, 3] (by decide) rfl
  exact W.iret (v := (nI 0)) hx hb hr (fun t ht hW => ⟨⟨((lnN k (lF k (N i) (Bw i) * 6 / 8) 1), (nI 4), G2_4, G1_3, G3_5, G4_6), rfl, show (nI 4) = nI 4 ∧ MR G1_3 G2_4 (N) (Bw) from ⟨rfl, hp1.1⟩, (by rw [ht]; exact hP9), va_K.moved hW.alike hK, hD9⟩, hS.F ht⟩) hS.2.2 dX6_plain_109
set_option maxHeartbeats 4000000 in
set_option maxRecDepth 100000 in
theorem m_plain (l : Launch) (D : va_G) (T : Nat → ClassId) (g : Nat → Nat) (sz : Nat) (m0 : Nat) (mb : Nat) (ml : Nat) (mm : Nat) (mk : Nat) (many : Nat) (th : Int32) (fb : Nat → Int32) (fl : Nat → Int32) (fm : Nat → Int32) (fk : Nat → Int32) (N : Nat → Nat) (Bw : Nat → Nat → Nat) (hMR : MR fl fb N Bw) (i : Nat) (hi : i < 6) (k : Nat) (hk : k < 3) (hw : wroB k (N i) (Bw i) = false) (hu : untB k (N i) (Bw i) = false) (hm : lnN k (lF k (N i) (Bw i) * 6 / 8) 1 ≤ 320) : MU l yX6_plain wsX6_plain ({ frames := 60, cells := 0, slots := 0, locals := 3000 } : Room) D T g [.ref m0, .int (nI i), .int (nI k)] [(m0, .inr (3, [.ref mb, .ref ml, .ref mm, .int (nI many), .int th, .ref mk])), (mb, .inl (T 0, 1920, .inl fb)), (ml, .inl (T 0, 6, .inl fl)), (mm, .inl (T 0, 600, .inl fm)), (mk, .inl (T 0, 320, .inl fk))] sz (fun u : Nat × Int32 × (Nat → Int32) × (Nat → Int32) × (Nat → Int32) × (Nat → Int32) => some (.int (nI (lnN k (lF k (N i) (Bw i) * 6 / 8) 1)))) (fun u : Nat × Int32 × (Nat → Int32) × (Nat → Int32) × (Nat → Int32) × (Nat → Int32) => u.2.1 = nI 0 ∧ MR u.2.2.2.1 u.2.2.1 (upA N i (lnN k (lF k (N i) (Bw i) * 6 / 8) 1)) (upA Bw i (wrA k (lF k (N i) (Bw i) * 6 / 8) (outB (lwF k (N i) (Bw i)))))) (fun u : Nat × Int32 × (Nat → Int32) × (Nat → Int32) × (Nat → Int32) × (Nat → Int32) => [(m0, .inr (3, [.ref mb, .ref ml, .ref mm, .int (nI u.1), .int u.2.1, .ref mk])), (mb, .inl (T 0, 1920, .inl u.2.2.1)), (ml, .inl (T 0, 6, .inl u.2.2.2.1)), (mm, .inl (T 0, 600, .inl u.2.2.2.2.1)), (mk, .inl (T 0, 320, .inl u.2.2.2.2.2))]) 0 0 := by
  refine Met.ofW (cc := cX6_plain) (maxL := 4) (ret := (some .int)) (by decide) rfl ?_
  intro p e s m args below meth c s₁ B hml hv
  obtain ⟨rfl, hsz, hP, hK, hD0, hG⟩ := hv
  have hx := B.exec
  have hb := B.bytes
  have hr := B.returns
  have hts := atoms_spec (ws := wsX6_plain) B.pre
  have hown : s.vm.findClass RX6 = some m.cls := findClass_of_methodNamed B.named
  have hlocks := B.notSynchronized
  have hi_X6 : ∀ w ∈ wsX60, w ∈ wsX6_plain := by decide +kernel
  subst hsz
  have hD := hD0.self (sz := s.heap.size)
  generalize hAe : va_A [(m0, .inr (3, [.ref mb, .ref ml, .ref mm, .int (nI many), .int th, .ref mk])), (mb, .inl (T 0, 1920, .inl fb)), (ml, .inl (T 0, 6, .inl fl)), (mm, .inl (T 0, 600, .inl fm)), (mk, .inl (T 0, 320, .inl fk))] s.heap.size = A at hD hG ⊢
  have hA : ∀ q : Nat, s.heap.size ≤ q → A q := fun q h => by rw [← hAe]; exact Or.inr h
  have hS : va_S A s.heap s.heap [] := va_S.rf
  have hP : va_P D cls [(m0, .inr (3, [.ref mb, .ref ml, .ref mm, .int (nI many), .int th, .ref mk])), (mb, .inl (T 0, 1920, .inl fb)), (ml, .inl (T 0, 6, .inl fl)), (mm, .inl (T 0, 600, .inl fm)), (mk, .inl (T 0, 320, .inl fk))] s.heap := hP
  have hl := lv_entry ([.ref m0, .int (nI i), .int (nI k)]) (n := 4) (Nat.le_of_ble_eq_true rfl)
  rw [lg_entry_eq]
  generalize (lg_sl ([.ref m0, .int (nI i), .int (nI k)]) ++ List.replicate (4 - (lg_sl ([.ref m0, .int (nI i), .int (nI k)])).length) Slot.unset).toArray = ls at hl ⊢
  have hl : lv_has ls 4 [(0, .ref m0), (1, .int (nI i)), (2, .int (nI k))] := hl
  have hrow := hMR i hi
  have hn := hrow.2.1
  have hz9 := l9_le (k := k) (b := Bw i) (n := N i) (by omega)
  have hle := lnN_le (k := k) (n := lF k (N i) (Bw i) * 6 / 8) (fl := 1) (by omega)
  refine lv_aload_n hx hb dX6_plain_0 rfl (lv_at hl 0 rfl) ?_
  refine lv_aload_n hx hb dX6_plain_1 rfl (lv_at hl 0 rfl) ?_
  refine lv_iload_n hx hb dX6_plain_2 rfl (lv_at hl 1 rfl) ?_
  refine ro_V (As := [.int (nI i)]) (rest := [.ref m0]) (wc := []) (r := .int (nI 1)) ⟨hx, hb, hml, hown, hts⟩ (c_X6_isRow_y l D T g m0 i (by omega)) (cwV 1 hts gX6_plain_X6_isRow rfl rfl rfl (by decide +kernel) ⟨Nat.le_of_ble_eq_true rfl, Nat.le_of_ble_eq_true rfl⟩) (va_recv hK hP (ci := 3) (q0 := 0) rfl rfl) hP hK hG hS [] rfl ⟨Nat.zero_le _, Nat.zero_le _⟩ rfl hl.1 (Nat.le_of_ble_eq_true rfl) dX6_plain_3 rfl ?_
  refine ln_if_ne_t (tgt := 13) hx hb (by omega) (by decide) dX6_plain_6 (by decide) ?_
  refine lv_aload_n hx hb dX6_plain_13 rfl (lv_at hl 0 rfl) ?_
  refine lv_iload_n hx hb dX6_plain_14 rfl (lv_at hl 2 rfl) ?_
  refine ro_V (As := [.int (nI k)]) (rest := [.ref m0]) (wc := []) (r := .int (nI 1)) ⟨hx, hb, hml, hown, hts⟩ (c_X6_isKind_y l D T g m0 k (by omega)) (cwV 1 hts gX6_plain_X6_isKind rfl rfl rfl (by decide +kernel) ⟨Nat.le_of_ble_eq_true rfl, Nat.le_of_ble_eq_true rfl⟩) (va_recv hK hP (ci := 3) (q0 := 0) rfl rfl) hP hK hG hS [] rfl ⟨Nat.zero_le _, Nat.zero_le _⟩ rfl hl.1 (Nat.le_of_ble_eq_true rfl) dX6_plain_15 rfl ?_
  refine ln_if_ne_t (tgt := 25) hx hb (by omega) (by decide) dX6_plain_18 (by decide) ?_
  refine lv_iconst (v := (nI 0)) hx hb dX6_plain_25 (by decide +kernel) ?_
  refine mu_V (As := [.int (nI 0)]) (rest := []) (wc := [(m0, .inr (3, [.ref mb, .ref ml, .ref mm, .int (nI many), .int th, .ref mk]))]) (wr := [(mb, .inl (T 0, 1920, .inl fb)), (ml, .inl (T 0, 6, .inl fl)), (mm, .inl (T 0, 600, .inl fm)), (mk, .inl (T 0, 320, .inl fk))]) ⟨hx, hb, hml, hown, hts⟩ (c_X6_isWrong_0 l D T g s.heap.size m0 mb ml mm mk many th) (cwV 1 hts gX6_plain_X6_isWrong rfl rfl rfl (by decide +kernel) ⟨Nat.le_of_ble_eq_true rfl, Nat.le_of_ble_eq_true rfl⟩) (va_recv hK hP (ci := 3) (q0 := 0) rfl rfl) hP hD hK hG hS hA [0] [1, 2, 3, 4] rfl (by decide) rfl (by decide) (by decide) ⟨Nat.le_of_ble_eq_true rfl, Nat.le_of_ble_eq_true rfl⟩ rfl hl.1 (Nat.le_of_ble_eq_true rfl) dX6_plain_26 rfl (fun u H locs hq1 hP hD hS => ?_)
  have hP : va_P D cls [(mb, .inl (T 0, 1920, .inl fb)), (ml, .inl (T 0, 6, .inl fl)), (mm, .inl (T 0, 600, .inl fm)), (mk, .inl (T 0, 320, .inl fk)), (m0, .inr (3, [.ref mb, .ref ml, .ref mm, .int (nI many), .int (nI 0), .ref mk]))] H := hP
  have hD : va_D A [(mb, .inl (T 0, 1920, .inl fb)), (ml, .inl (T 0, 6, .inl fl)), (mm, .inl (T 0, 600, .inl fm)), (mk, .inl (T 0, 320, .inl fk)), (m0, .inr (3, [.ref mb, .ref ml, .ref mm, .int (nI many), .int (nI 0), .ref mk]))] := hD
  refine W.eq (g2 := F0 m 29 ls [.int (nI 0)]) rfl ?_
  refine ln_if_eq_t (tgt := 34) hx hb (by omega) (by decide) dX6_plain_29 (by decide) ?_
  refine lv_aload_n hx hb dX6_plain_34 rfl (lv_at hl 0 rfl) ?_
  refine lv_iload_n hx hb dX6_plain_35 rfl (lv_at hl 1 rfl) ?_
  refine lv_iload_n hx hb dX6_plain_36 rfl (lv_at hl 2 rfl) ?_
  refine ro_V (As := [.int (nI i), .int (nI k)]) (rest := []) (wc := [(m0, .inr (3, [.ref mb, .ref ml, .ref mm, .int (nI many), .int (nI 0), .ref mk])), (ml, .inl (T 0, 6, .inl fl)), (mb, .inl (T 0, 1920, .inl fb))]) (r := .int (tlI k (N i) (Bw i))) ⟨hx, hb, hml, hown, hts⟩ (c_X6_looks l D T g m0 mb ml mm mk many (nI 0) fb fl i (N i) (Bw i) hi ((hMR i hi).1) ((hMR i hi).2) k hk) (cwV 2 hts gX6_plain_X6_looks rfl rfl rfl (by decide +kernel) ⟨Nat.le_of_ble_eq_true rfl, Nat.le_of_ble_eq_true rfl⟩) (va_recv hK hP (ci := 3) (q0 := 4) rfl rfl) hP hK hG hS [4, 1, 0] rfl ⟨Nat.zero_le _, Nat.zero_le _⟩ rfl hl.1 (Nat.le_of_ble_eq_true rfl) dX6_plain_37 rfl ?_
  rw [tl_good hw hu]
  refine lv_istore_n (lv' := [(3, .int (nI (lF k (N i) (Bw i) * 6 / 8))), (0, .ref m0), (1, .int (nI i)), (2, .int (nI k))]) hx hb dX6_plain_40 rfl hl (by decide) rfl (fun ls hl => ?_)
  refine lv_aload_n hx hb dX6_plain_41 rfl (lv_at hl 1 rfl) ?_
  refine lv_iload_n hx hb dX6_plain_42 rfl (lv_at hl 0 rfl) ?_
  refine lv_iconst (v := (-1)) hx hb dX6_plain_43 (by decide +kernel) ?_
  refine lv_icmp_ne (tgt := 51) hx hb dX6_plain_44 (by decide) (fun _ => ?_) (fun q9 => absurd q9 ((nI_nm (by omega)).1))
  refine lv_iload_n hx hb dX6_plain_51 rfl (lv_at hl 0 rfl) ?_
  refine lv_bipush (v := (-2)) hx hb dX6_plain_52 (by decide +kernel) ?_
  refine lv_icmp_ne (tgt := 61) hx hb dX6_plain_54 (by decide) (fun _ => ?_) (fun q9 => absurd q9 ((nI_nm (by omega)).2))
  refine lv_iconst (v := (nI 0)) hx hb dX6_plain_61 (by decide +kernel) ?_
  refine mu_V (As := [.int (nI 0)]) (rest := []) (wc := [(m0, .inr (3, [.ref mb, .ref ml, .ref mm, .int (nI many), .int (nI 0), .ref mk]))]) (wr := [(mb, .inl (T 0, 1920, .inl fb)), (ml, .inl (T 0, 6, .inl fl)), (mm, .inl (T 0, 600, .inl fm)), (mk, .inl (T 0, 320, .inl fk))]) ⟨hx, hb, hml, hown, hts⟩ (c_X6_isWrong_0 l D T g H.size m0 mb ml mm mk many (nI 0)) (cwV 1 hts gX6_plain_X6_isWrong rfl rfl rfl (by decide +kernel) ⟨Nat.le_of_ble_eq_true rfl, Nat.le_of_ble_eq_true rfl⟩) (va_recv hK hP (ci := 3) (q0 := 4) rfl rfl) hP hD hK hG hS hA [4] [0, 1, 2, 3] rfl (by decide) rfl (by decide) (by decide) ⟨Nat.le_of_ble_eq_true rfl, Nat.le_of_ble_eq_true rfl⟩ rfl hl.1 (Nat.le_of_ble_eq_true rfl) dX6_plain_62 rfl (fun u H locs hq2 hP hD hS => ?_)
  have hP : va_P D cls [(mb, .inl (T 0, 1920, .inl fb)), (ml, .inl (T 0, 6, .inl fl)), (mm, .inl (T 0, 600, .inl fm)), (mk, .inl (T 0, 320, .inl fk)), (m0, .inr (3, [.ref mb, .ref ml, .ref mm, .int (nI many), .int (nI 0), .ref mk]))] H := hP
  have hD : va_D A [(mb, .inl (T 0, 1920, .inl fb)), (ml, .inl (T 0, 6, .inl fl)), (mm, .inl (T 0, 600, .inl fm)), (mk, .inl (T 0, 320, .inl fk)), (m0, .inr (3, [.ref mb, .ref ml, .ref mm, .int (nI many), .int (nI 0), .ref mk]))] := hD
  refine W.eq (g2 := F0 m 65 ls [.int (nI 0)]) rfl ?_
  refine ln_if_eq_t (tgt := 70) hx hb (by omega) (by decide) dX6_plain_65 (by decide) ?_
  refine lv_aload_n hx hb dX6_plain_70 rfl (lv_at hl 1 rfl) ?_
  refine lv_iload_n hx hb dX6_plain_71 rfl (lv_at hl 2 rfl) ?_
  refine lv_iload_n hx hb dX6_plain_72 rfl (lv_at hl 3 rfl) ?_
  refine lv_iload_n hx hb dX6_plain_73 rfl (lv_at hl 0 rfl) ?_
  refine lv_iconst (v := (nI 1)) hx hb dX6_plain_74 (by decide +kernel) ?_
  refine mu_V (As := [.int (nI i), .int (nI k), .int (nI (lF k (N i) (Bw i) * 6 / 8)), .int (nI 1)]) (rest := []) (wc := [(m0, .inr (3, [.ref mb, .ref ml, .ref mm, .int (nI many), .int (nI 0), .ref mk])), (mb, .inl (T 0, 1920, .inl fb)), (ml, .inl (T 0, 6, .inl fl)), (mm, .inl (T 0, 600, .inl fm)), (mk, .inl (T 0, 320, .inl fk))]) (wr := []) ⟨hx, hb, hml, hown, hts⟩ (c_X6_again l D T g H.size m0 mb ml mm mk many (nI 0) fb fl fm fk N Bw i hi (hMR) k hk (lF k (N i) (Bw i) * 6 / 8) (hu) (rfl) 1 (by omega)) (cwV 4 hts gX6_plain_X6_again rfl rfl rfl (by decide +kernel) ⟨Nat.le_of_ble_eq_true rfl, Nat.le_of_ble_eq_true rfl⟩) (va_recv hK hP (ci := 3) (q0 := 4) rfl rfl) hP hD hK hG hS hA [4, 0, 1, 2, 3] [] rfl (by decide) rfl (by decide) (by decide) ⟨Nat.le_of_ble_eq_true rfl, Nat.le_of_ble_eq_true rfl⟩ rfl hl.1 (Nat.le_of_ble_eq_true rfl) dX6_plain_75 rfl (fun u H locs hq7 hP hD hS => ?_)
  obtain ⟨G1_3, G2_4, G3_5, G4_6⟩ := u
  have hP : va_P D cls [(m0, .inr (3, [.ref mb, .ref ml, .ref mm, .int (nI (lnN k (lF k (N i) (Bw i) * 6 / 8) 1)), .int (nI 0), .ref mk])), (mb, .inl (T 0, 1920, .inl G2_4)), (ml, .inl (T 0, 6, .inl G1_3)), (mm, .inl (T 0, 600, .inl G3_5)), (mk, .inl (T 0, 320, .inl G4_6))] H := hP
  have hD : va_D A [(m0, .inr (3, [.ref mb, .ref ml, .ref mm, .int (nI (lnN k (lF k (N i) (Bw i) * 6 / 8) 1)), .int (nI 0), .ref mk])), (mb, .inl (T 0, 1920, .inl G2_4)), (ml, .inl (T 0, 6, .inl G1_3)), (mm, .inl (T 0, 600, .inl G3_5)), (mk, .inl (T 0, 320, .inl G4_6))] := hD
  have hp1 : MR G1_3 G2_4 N Bw ∧ MD G3_5 (lnN k (lF k (N i) (Bw i) * 6 / 8) 1) (wrA k (lF k (N i) (Bw i) * 6 / 8) (outB (lwF k (N i) (Bw i)))) := hq7
  refine W.eq (g2 := F0 m 78 ls []) rfl ?_
  refine lv_aload_n hx hb dX6_plain_78 rfl (lv_at hl 1 rfl) ?_
  refine lv_aload_n hx hb dX6_plain_79 rfl (lv_at hl 1 rfl) ?_
  refine va_get (D := D) (ci := 3) (v := .int (nI (lnN k (lF k (N i) (Bw i) * 6 / 8) 1))) (C := RX6) (T := TX6) (N := 6) hx hb hts hi_X6 hown hK hP 0 rfl rfl 3 (by decide) (hts _ (List.mem_of_getElem? (i := 1) rfl)) (fun _ h9 => h9) rfl dX6_plain_80 ?_
  refine lv_sipush (v := (nI 320)) hx hb dX6_plain_83 (by decide +kernel) ?_
  refine ln_icmp_le_t (tgt := 93) hx hb ⟨by omega, by omega⟩ (by omega) dX6_plain_86 (by decide) ?_
  refine lv_iconst (v := (nI 0)) hx hb dX6_plain_93 (by decide +kernel) ?_
  refine mu_V (As := [.int (nI 0)]) (rest := []) (wc := [(m0, .inr (3, [.ref mb, .ref ml, .ref mm, .int (nI (lnN k (lF k (N i) (Bw i) * 6 / 8) 1)), .int (nI 0), .ref mk]))]) (wr := [(mb, .inl (T 0, 1920, .inl G2_4)), (ml, .inl (T 0, 6, .inl G1_3)), (mm, .inl (T 0, 600, .inl G3_5)), (mk, .inl (T 0, 320, .inl G4_6))]) ⟨hx, hb, hml, hown, hts⟩ (c_X6_isWrong_0 l D T g H.size m0 mb ml mm mk (lnN k (lF k (N i) (Bw i) * 6 / 8) 1) (nI 0)) (cwV 1 hts gX6_plain_X6_isWrong rfl rfl rfl (by decide +kernel) ⟨Nat.le_of_ble_eq_true rfl, Nat.le_of_ble_eq_true rfl⟩) (va_recv hK hP (ci := 3) (q0 := 0) rfl rfl) hP hD hK hG hS hA [0] [1, 2, 3, 4] rfl (by decide) rfl (by decide) (by decide) ⟨Nat.le_of_ble_eq_true rfl, Nat.le_of_ble_eq_true rfl⟩ rfl hl.1 (Nat.le_of_ble_eq_true rfl) dX6_plain_94 rfl (fun u H locs hq8 hP hD hS => ?_)
  have hP : va_P D cls [(mb, .inl (T 0, 1920, .inl G2_4)), (ml, .inl (T 0, 6, .inl G1_3)), (mm, .inl (T 0, 600, .inl G3_5)), (mk, .inl (T 0, 320, .inl G4_6)), (m0, .inr (3, [.ref mb, .ref ml, .ref mm, .int (nI (lnN k (lF k (N i) (Bw i) * 6 / 8) 1)), .int (nI 0), .ref mk]))] H := hP
  have hD : va_D A [(mb, .inl (T 0, 1920, .inl G2_4)), (ml, .inl (T 0, 6, .inl G1_3)), (mm, .inl (T 0, 600, .inl G3_5)), (mk, .inl (T 0, 320, .inl G4_6)), (m0, .inr (3, [.ref mb, .ref ml, .ref mm, .int (nI (lnN k (lF k (N i) (Bw i) * 6 / 8) 1)), .int (nI 0), .ref mk]))] := hD
  refine W.eq (g2 := F0 m 97 ls [.int (nI 0)]) rfl ?_
  refine ln_if_eq_t (tgt := 104) hx hb (by omega) (by decide) dX6_plain_97 (by decide) ?_
  refine lv_aload_n hx hb dX6_plain_104 rfl (lv_at hl 1 rfl) ?_
  refine lv_iload_n hx hb dX6_plain_105 rfl (lv_at hl 2 rfl) ?_
  refine mu_V (As := [.int (nI i)]) (rest := []) (wc := [(m0, .inr (3, [.ref mb, .ref ml, .ref mm, .int (nI (lnN k (lF k (N i) (Bw i) * 6 / 8) 1)), .int (nI 0), .ref mk])), (mb, .inl (T 0, 1920, .inl G2_4)), (ml, .inl (T 0, 6, .inl G1_3)), (mm, .inl (T 0, 600, .inl G3_5))]) (wr := [(mk, .inl (T 0, 320, .inl G4_6))]) ⟨hx, hb, hml, hown, hts⟩ (c_X6_becomes l D T g H.size m0 mb ml mm mk (lnN k (lF k (N i) (Bw i) * 6 / 8) 1) (nI 0) G2_4 G1_3 G3_5 i (wrA k (lF k (N i) (Bw i) * 6 / 8) (outB (lwF k (N i) (Bw i)))) hi (hp1.2) (by omega)) (cwV 1 hts gX6_plain_X6_becomes rfl rfl rfl (by decide +kernel) ⟨Nat.le_of_ble_eq_true rfl, Nat.le_of_ble_eq_true rfl⟩) (va_recv hK hP (ci := 3) (q0 := 4) rfl rfl) hP hD hK hG hS hA [4, 0, 1, 2] [3] rfl (by decide) rfl (by decide) (by decide) ⟨Nat.le_of_ble_eq_true rfl, Nat.le_of_ble_eq_true rfl⟩ rfl hl.1 (Nat.le_of_ble_eq_true rfl) dX6_plain_106 rfl (fun u H locs hq10 hP hD hS => ?_)
  obtain ⟨F_9, hu9⟩ : ∃ z, z = u := ⟨_, rfl⟩
  subst hu9
  have hP : va_P D cls [(mk, .inl (T 0, 320, .inl G4_6)), (m0, .inr (3, [.ref mb, .ref ml, .ref mm, .int (nI (lnN k (lF k (N i) (Bw i) * 6 / 8) 1)), .int (nI 0), .ref mk])), (mb, .inl (T 0, 1920, .inl F_9)), (ml, .inl (T 0, 6, .inl (upd G1_3 i (nI (lnN k (lF k (N i) (Bw i) * 6 / 8) 1))))), (mm, .inl (T 0, 600, .inl G3_5))] H := hP
  have hD : va_D A [(mk, .inl (T 0, 320, .inl G4_6)), (m0, .inr (3, [.ref mb, .ref ml, .ref mm, .int (nI (lnN k (lF k (N i) (Bw i) * 6 / 8) 1)), .int (nI 0), .ref mk])), (mb, .inl (T 0, 1920, .inl F_9)), (ml, .inl (T 0, 6, .inl (upd G1_3 i (nI (lnN k (lF k (N i) (Bw i) * 6 / 8) 1))))), (mm, .inl (T 0, 600, .inl G3_5))] := hD
  have hp2 : RW F_9 i (lnN k (lF k (N i) (Bw i) * 6 / 8) 1) (wrA k (lF k (N i) (Bw i) * 6 / 8) (outB (lwF k (N i) (Bw i)))) ∧ ∀ q, q < 320 * i ∨ 320 * i + 320 ≤ q → F_9 q = G2_4 q := hq10
  refine W.eq (g2 := F0 m 109 ls [.int (nI (lnN k (lF k (N i) (Bw i) * 6 / 8) 1))]) rfl ?_
  have hP9 := hP.sub (ws' := [(m0, .inr (3, [.ref mb, .ref ml, .ref mm, .int (nI (lnN k (lF k (N i) (Bw i) * 6 / 8) 1)), .int (nI 0), .ref mk])), (mb, .inl (T 0, 1920, .inl F_9)), (ml, .inl (T 0, 6, .inl (upd G1_3 i (nI (lnN k (lF k (N i) (Bw i) * 6 / 8) 1))))), (mm, .inl (T 0, 600, .inl G3_5)), (mk, .inl (T 0, 320, .inl G4_6))]) [1, 2, 3, 4, 0] rfl
  have hD9 := hD.sub (ws' := [(m0, .inr (3, [.ref mb, .ref ml, .ref mm, .int (nI (lnN k (lF k (N i) (Bw i) * 6 / 8) 1)), .int (nI 0), .ref mk])), (mb, .inl (T 0, 1920, .inl F_9)), (ml, .inl (T 0, 6, .inl (upd G1_3 i (nI (lnN k (lF k (N i) (Bw i) * 6 / 8) 1))))), (mm, .inl (T 0, 600, .inl G3_5)), (mk, .inl (T 0, 320, .inl G4_6))]) [1, 2, 3, 4, 0] (by decide) rfl
  exact W.iret (v := (nI (lnN k (lF k (N i) (Bw i) * 6 / 8) 1))) hx hb hr (fun t ht hW => ⟨⟨((lnN k (lF k (N i) (Bw i) * 6 / 8) 1), (nI 0), F_9, upd G1_3 i (nI (lnN k (lF k (N i) (Bw i) * 6 / 8) 1)), G3_5, G4_6), rfl, show (nI 0) = nI 0 ∧ MR (upd G1_3 i (nI (lnN k (lF k (N i) (Bw i) * 6 / 8) 1))) F_9 (upA N i (lnN k (lF k (N i) (Bw i) * 6 / 8) 1)) (upA Bw i (wrA k (lF k (N i) (Bw i) * 6 / 8) (outB (lwF k (N i) (Bw i))))) from ⟨rfl, MR_upd hp1.1 pk_us (fun z _ hne => pk_un hne) hp2.1 hp2.2⟩, (by rw [ht]; exact hP9), va_K.moved hW.alike hK, hD9⟩, hS.F ht⟩) hS.2.2 dX6_plain_109
set_option maxHeartbeats 4000000 in
set_option maxRecDepth 100000 in
theorem m_letterShare_1 (l : Launch) (D : va_G) (T : Nat → ClassId) (g : Nat → Nat) (sz : Nat) (m0 : Nat) (mb : Nat) (ml : Nat) (mm : Nat) (mk : Nat) (many : Nat) (th : Int32) (fb : Nat → Int32) (fl : Nat → Int32) (fm : Nat → Int32) (fk : Nat → Int32) (N : Nat → Nat) (Bw : Nat → Nat → Nat) (hMR : MR fl fb N Bw) (i : Int32) (hi : i < 0 ∨ nI 5 < i) (x0 : Int32) : MU l yX6_letterShare wsX6_letterShare ({ frames := 60, cells := 0, slots := 0, locals := 3000 } : Room) D T g [.ref m0, .int i, .int x0] [(m0, .inr (3, [.ref mb, .ref ml, .ref mm, .int (nI many), .int th, .ref mk])), (mb, .inl (T 0, 1920, .inl fb)), (ml, .inl (T 0, 6, .inl fl)), (mm, .inl (T 0, 600, .inl fm)), (mk, .inl (T 0, 320, .inl fk))] sz (fun u : Nat × Int32 × (Nat → Int32) × (Nat → Int32) × (Nat → Int32) × (Nat → Int32) => some (.float FP.fconst0)) (fun u : Nat × Int32 × (Nat → Int32) × (Nat → Int32) × (Nat → Int32) × (Nat → Int32) => u.2.1 = nI 1 ∧ MR u.2.2.2.1 u.2.2.1 (N) (Bw)) (fun u : Nat × Int32 × (Nat → Int32) × (Nat → Int32) × (Nat → Int32) × (Nat → Int32) => [(m0, .inr (3, [.ref mb, .ref ml, .ref mm, .int (nI u.1), .int u.2.1, .ref mk])), (mb, .inl (T 0, 1920, .inl u.2.2.1)), (ml, .inl (T 0, 6, .inl u.2.2.2.1)), (mm, .inl (T 0, 600, .inl u.2.2.2.2.1)), (mk, .inl (T 0, 320, .inl u.2.2.2.2.2))]) 0 0 := by
  refine Met.ofW (cc := cX6_letterShare) (maxL := 3) (ret := (some .float)) (by decide) rfl ?_
  intro p e s m args below meth c s₁ B hml hv
  obtain ⟨rfl, hsz, hP, hK, hD0, hG⟩ := hv
  have hx := B.exec
  have hb := B.bytes
  have hr := B.returns
  have hts := atoms_spec (ws := wsX6_letterShare) B.pre
  have hown : s.vm.findClass RX6 = some m.cls := findClass_of_methodNamed B.named
  have hlocks := B.notSynchronized
  subst hsz
  have hD := hD0.self (sz := s.heap.size)
  generalize hAe : va_A [(m0, .inr (3, [.ref mb, .ref ml, .ref mm, .int (nI many), .int th, .ref mk])), (mb, .inl (T 0, 1920, .inl fb)), (ml, .inl (T 0, 6, .inl fl)), (mm, .inl (T 0, 600, .inl fm)), (mk, .inl (T 0, 320, .inl fk))] s.heap.size = A at hD hG ⊢
  have hA : ∀ q : Nat, s.heap.size ≤ q → A q := fun q h => by rw [← hAe]; exact Or.inr h
  have hS : va_S A s.heap s.heap [] := va_S.rf
  have hP : va_P D cls [(m0, .inr (3, [.ref mb, .ref ml, .ref mm, .int (nI many), .int th, .ref mk])), (mb, .inl (T 0, 1920, .inl fb)), (ml, .inl (T 0, 6, .inl fl)), (mm, .inl (T 0, 600, .inl fm)), (mk, .inl (T 0, 320, .inl fk))] s.heap := hP
  have hl := lv_entry ([.ref m0, .int i, .int x0]) (n := 3) (Nat.le_of_ble_eq_true rfl)
  rw [lg_entry_eq]
  generalize (lg_sl ([.ref m0, .int i, .int x0]) ++ List.replicate (3 - (lg_sl ([.ref m0, .int i, .int x0])).length) Slot.unset).toArray = ls at hl ⊢
  have hl : lv_has ls 3 [(0, .ref m0), (1, .int i), (2, .int x0)] := hl
  refine lv_aload_n hx hb dX6_letterShare_0 rfl (lv_at hl 0 rfl) ?_
  refine lv_aload_n hx hb dX6_letterShare_1 rfl (lv_at hl 0 rfl) ?_
  refine lv_iload_n hx hb dX6_letterShare_2 rfl (lv_at hl 1 rfl) ?_
  refine ro_V (As := [.int i]) (rest := [.ref m0]) (wc := []) (r := .int (nI 0)) ⟨hx, hb, hml, hown, hts⟩ (c_X6_isRow_n l D T g m0 i hi) (cwV 1 hts gX6_letterShare_X6_isRow rfl rfl rfl (by decide +kernel) ⟨Nat.le_of_ble_eq_true rfl, Nat.le_of_ble_eq_true rfl⟩) (va_recv hK hP (ci := 3) (q0 := 0) rfl rfl) hP hK hG hS [] rfl ⟨Nat.zero_le _, Nat.zero_le _⟩ rfl hl.1 (Nat.le_of_ble_eq_true rfl) dX6_letterShare_3 rfl ?_
  refine ln_if_ne_f (tgt := 13) hx hb (by omega) (by decide) dX6_letterShare_6 (by decide) ?_
  refine lv_iconst (v := (nI 1)) hx hb dX6_letterShare_9 (by decide +kernel) ?_
  refine lv_goto (tgt := 39) hx hb dX6_letterShare_10 (by decide) ?_
  refine mu_V (As := [.int (nI 1)]) (rest := []) (wc := [(m0, .inr (3, [.ref mb, .ref ml, .ref mm, .int (nI many), .int th, .ref mk]))]) (wr := [(mb, .inl (T 0, 1920, .inl fb)), (ml, .inl (T 0, 6, .inl fl)), (mm, .inl (T 0, 600, .inl fm)), (mk, .inl (T 0, 320, .inl fk))]) ⟨hx, hb, hml, hown, hts⟩ (c_X6_isWrong_p l D T g s.heap.size m0 mb ml mm mk many th 1 (by omega)) (cwV 1 hts gX6_letterShare_X6_isWrong rfl rfl rfl (by decide +kernel) ⟨Nat.le_of_ble_eq_true rfl, Nat.le_of_ble_eq_true rfl⟩) (va_recv hK hP (ci := 3) (q0 := 0) rfl rfl) hP hD hK hG hS hA [0] [1, 2, 3, 4] rfl (by decide) rfl (by decide) (by decide) ⟨Nat.le_of_ble_eq_true rfl, Nat.le_of_ble_eq_true rfl⟩ rfl hl.1 (Nat.le_of_ble_eq_true rfl) dX6_letterShare_39 rfl (fun u H locs hq1 hP hD hS => ?_)
  have hP : va_P D cls [(mb, .inl (T 0, 1920, .inl fb)), (ml, .inl (T 0, 6, .inl fl)), (mm, .inl (T 0, 600, .inl fm)), (mk, .inl (T 0, 320, .inl fk)), (m0, .inr (3, [.ref mb, .ref ml, .ref mm, .int (nI many), .int (nI 1), .ref mk]))] H := hP
  have hD : va_D A [(mb, .inl (T 0, 1920, .inl fb)), (ml, .inl (T 0, 6, .inl fl)), (mm, .inl (T 0, 600, .inl fm)), (mk, .inl (T 0, 320, .inl fk)), (m0, .inr (3, [.ref mb, .ref ml, .ref mm, .int (nI many), .int (nI 1), .ref mk]))] := hD
  refine W.eq (g2 := F0 m 42 ls [.int (nI 1)]) rfl ?_
  refine ln_if_eq_f (tgt := 47) hx hb (by omega) (by decide) dX6_letterShare_42 (by decide) ?_
  refine lv_fconst0 hx hb dX6_letterShare_45 ?_
  have hP9 := hP.sub (ws' := [(m0, .inr (3, [.ref mb, .ref ml, .ref mm, .int (nI many), .int (nI 1), .ref mk])), (mb, .inl (T 0, 1920, .inl fb)), (ml, .inl (T 0, 6, .inl fl)), (mm, .inl (T 0, 600, .inl fm)), (mk, .inl (T 0, 320, .inl fk))]) [4, 0, 1, 2, 3] rfl
  have hD9 := hD.sub (ws' := [(m0, .inr (3, [.ref mb, .ref ml, .ref mm, .int (nI many), .int (nI 1), .ref mk])), (mb, .inl (T 0, 1920, .inl fb)), (ml, .inl (T 0, 6, .inl fl)), (mm, .inl (T 0, 600, .inl fm)), (mk, .inl (T 0, 320, .inl fk))]) [4, 0, 1, 2, 3] (by decide) rfl
  exact W.fret (v := FP.fconst0) hx hb hr (fun t ht hW => ⟨⟨(many, (nI 1), fb, fl, fm, fk), rfl, show (nI 1) = nI 1 ∧ MR fl fb (N) (Bw) from ⟨rfl, hMR⟩, (by rw [ht]; exact hP9), va_K.moved hW.alike hK, hD9⟩, hS.F ht⟩) hS.2.2 dX6_letterShare_46
set_option maxHeartbeats 4000000 in
set_option maxRecDepth 100000 in
theorem m_letterShare_2 (l : Launch) (D : va_G) (T : Nat → ClassId) (g : Nat → Nat) (sz : Nat) (m0 : Nat) (mb : Nat) (ml : Nat) (mm : Nat) (mk : Nat) (many : Nat) (th : Int32) (fb : Nat → Int32) (fl : Nat → Int32) (fm : Nat → Int32) (fk : Nat → Int32) (N : Nat → Nat) (Bw : Nat → Nat → Nat) (hMR : MR fl fb N Bw) (i : Nat) (hi : i < 6) (k : Int32) (hk : k < 0 ∨ nI 2 < k) : MU l yX6_letterShare wsX6_letterShare ({ frames := 60, cells := 0, slots := 0, locals := 3000 } : Room) D T g [.ref m0, .int (nI i), .int k] [(m0, .inr (3, [.ref mb, .ref ml, .ref mm, .int (nI many), .int th, .ref mk])), (mb, .inl (T 0, 1920, .inl fb)), (ml, .inl (T 0, 6, .inl fl)), (mm, .inl (T 0, 600, .inl fm)), (mk, .inl (T 0, 320, .inl fk))] sz (fun u : Nat × Int32 × (Nat → Int32) × (Nat → Int32) × (Nat → Int32) × (Nat → Int32) => some (.float FP.fconst0)) (fun u : Nat × Int32 × (Nat → Int32) × (Nat → Int32) × (Nat → Int32) × (Nat → Int32) => u.2.1 = nI 2 ∧ MR u.2.2.2.1 u.2.2.1 (N) (Bw)) (fun u : Nat × Int32 × (Nat → Int32) × (Nat → Int32) × (Nat → Int32) × (Nat → Int32) => [(m0, .inr (3, [.ref mb, .ref ml, .ref mm, .int (nI u.1), .int u.2.1, .ref mk])), (mb, .inl (T 0, 1920, .inl u.2.2.1)), (ml, .inl (T 0, 6, .inl u.2.2.2.1)), (mm, .inl (T 0, 600, .inl u.2.2.2.2.1)), (mk, .inl (T 0, 320, .inl u.2.2.2.2.2))]) 0 0 := by
  refine Met.ofW (cc := cX6_letterShare) (maxL := 3) (ret := (some .float)) (by decide) rfl ?_
  intro p e s m args below meth c s₁ B hml hv
  obtain ⟨rfl, hsz, hP, hK, hD0, hG⟩ := hv
  have hx := B.exec
  have hb := B.bytes
  have hr := B.returns
  have hts := atoms_spec (ws := wsX6_letterShare) B.pre
  have hown : s.vm.findClass RX6 = some m.cls := findClass_of_methodNamed B.named
  have hlocks := B.notSynchronized
  subst hsz
  have hD := hD0.self (sz := s.heap.size)
  generalize hAe : va_A [(m0, .inr (3, [.ref mb, .ref ml, .ref mm, .int (nI many), .int th, .ref mk])), (mb, .inl (T 0, 1920, .inl fb)), (ml, .inl (T 0, 6, .inl fl)), (mm, .inl (T 0, 600, .inl fm)), (mk, .inl (T 0, 320, .inl fk))] s.heap.size = A at hD hG ⊢
  have hA : ∀ q : Nat, s.heap.size ≤ q → A q := fun q h => by rw [← hAe]; exact Or.inr h
  have hS : va_S A s.heap s.heap [] := va_S.rf
  have hP : va_P D cls [(m0, .inr (3, [.ref mb, .ref ml, .ref mm, .int (nI many), .int th, .ref mk])), (mb, .inl (T 0, 1920, .inl fb)), (ml, .inl (T 0, 6, .inl fl)), (mm, .inl (T 0, 600, .inl fm)), (mk, .inl (T 0, 320, .inl fk))] s.heap := hP
  have hl := lv_entry ([.ref m0, .int (nI i), .int k]) (n := 3) (Nat.le_of_ble_eq_true rfl)
  rw [lg_entry_eq]
  generalize (lg_sl ([.ref m0, .int (nI i), .int k]) ++ List.replicate (3 - (lg_sl ([.ref m0, .int (nI i), .int k])).length) Slot.unset).toArray = ls at hl ⊢
  have hl : lv_has ls 3 [(0, .ref m0), (1, .int (nI i)), (2, .int k)] := hl
  refine lv_aload_n hx hb dX6_letterShare_0 rfl (lv_at hl 0 rfl) ?_
  refine lv_aload_n hx hb dX6_letterShare_1 rfl (lv_at hl 0 rfl) ?_
  refine lv_iload_n hx hb dX6_letterShare_2 rfl (lv_at hl 1 rfl) ?_
  refine ro_V (As := [.int (nI i)]) (rest := [.ref m0]) (wc := []) (r := .int (nI 1)) ⟨hx, hb, hml, hown, hts⟩ (c_X6_isRow_y l D T g m0 i (by omega)) (cwV 1 hts gX6_letterShare_X6_isRow rfl rfl rfl (by decide +kernel) ⟨Nat.le_of_ble_eq_true rfl, Nat.le_of_ble_eq_true rfl⟩) (va_recv hK hP (ci := 3) (q0 := 0) rfl rfl) hP hK hG hS [] rfl ⟨Nat.zero_le _, Nat.zero_le _⟩ rfl hl.1 (Nat.le_of_ble_eq_true rfl) dX6_letterShare_3 rfl ?_
  refine ln_if_ne_t (tgt := 13) hx hb (by omega) (by decide) dX6_letterShare_6 (by decide) ?_
  refine lv_aload_n hx hb dX6_letterShare_13 rfl (lv_at hl 0 rfl) ?_
  refine lv_iload_n hx hb dX6_letterShare_14 rfl (lv_at hl 2 rfl) ?_
  refine ro_V (As := [.int k]) (rest := [.ref m0]) (wc := []) (r := .int (nI 0)) ⟨hx, hb, hml, hown, hts⟩ (c_X6_isKind_n l D T g m0 k hk) (cwV 1 hts gX6_letterShare_X6_isKind rfl rfl rfl (by decide +kernel) ⟨Nat.le_of_ble_eq_true rfl, Nat.le_of_ble_eq_true rfl⟩) (va_recv hK hP (ci := 3) (q0 := 0) rfl rfl) hP hK hG hS [] rfl ⟨Nat.zero_le _, Nat.zero_le _⟩ rfl hl.1 (Nat.le_of_ble_eq_true rfl) dX6_letterShare_15 rfl ?_
  refine ln_if_ne_f (tgt := 25) hx hb (by omega) (by decide) dX6_letterShare_18 (by decide) ?_
  refine lv_iconst (v := (nI 2)) hx hb dX6_letterShare_21 (by decide +kernel) ?_
  refine lv_goto (tgt := 39) hx hb dX6_letterShare_22 (by decide) ?_
  refine mu_V (As := [.int (nI 2)]) (rest := []) (wc := [(m0, .inr (3, [.ref mb, .ref ml, .ref mm, .int (nI many), .int th, .ref mk]))]) (wr := [(mb, .inl (T 0, 1920, .inl fb)), (ml, .inl (T 0, 6, .inl fl)), (mm, .inl (T 0, 600, .inl fm)), (mk, .inl (T 0, 320, .inl fk))]) ⟨hx, hb, hml, hown, hts⟩ (c_X6_isWrong_p l D T g s.heap.size m0 mb ml mm mk many th 2 (by omega)) (cwV 1 hts gX6_letterShare_X6_isWrong rfl rfl rfl (by decide +kernel) ⟨Nat.le_of_ble_eq_true rfl, Nat.le_of_ble_eq_true rfl⟩) (va_recv hK hP (ci := 3) (q0 := 0) rfl rfl) hP hD hK hG hS hA [0] [1, 2, 3, 4] rfl (by decide) rfl (by decide) (by decide) ⟨Nat.le_of_ble_eq_true rfl, Nat.le_of_ble_eq_true rfl⟩ rfl hl.1 (Nat.le_of_ble_eq_true rfl) dX6_letterShare_39 rfl (fun u H locs hq1 hP hD hS => ?_)
  have hP : va_P D cls [(mb, .inl (T 0, 1920, .inl fb)), (ml, .inl (T 0, 6, .inl fl)), (mm, .inl (T 0, 600, .inl fm)), (mk, .inl (T 0, 320, .inl fk)), (m0, .inr (3, [.ref mb, .ref ml, .ref mm, .int (nI many), .int (nI 2), .ref mk]))] H := hP
  have hD : va_D A [(mb, .inl (T 0, 1920, .inl fb)), (ml, .inl (T 0, 6, .inl fl)), (mm, .inl (T 0, 600, .inl fm)), (mk, .inl (T 0, 320, .inl fk)), (m0, .inr (3, [.ref mb, .ref ml, .ref mm, .int (nI many), .int (nI 2), .ref mk]))] := hD
  refine W.eq (g2 := F0 m 42 ls [.int (nI 1)]) rfl ?_
  refine ln_if_eq_f (tgt := 47) hx hb (by omega) (by decide) dX6_letterShare_42 (by decide) ?_
  refine lv_fconst0 hx hb dX6_letterShare_45 ?_
  have hP9 := hP.sub (ws' := [(m0, .inr (3, [.ref mb, .ref ml, .ref mm, .int (nI many), .int (nI 2), .ref mk])), (mb, .inl (T 0, 1920, .inl fb)), (ml, .inl (T 0, 6, .inl fl)), (mm, .inl (T 0, 600, .inl fm)), (mk, .inl (T 0, 320, .inl fk))]) [4, 0, 1, 2, 3] rfl
  have hD9 := hD.sub (ws' := [(m0, .inr (3, [.ref mb, .ref ml, .ref mm, .int (nI many), .int (nI 2), .ref mk])), (mb, .inl (T 0, 1920, .inl fb)), (ml, .inl (T 0, 6, .inl fl)), (mm, .inl (T 0, 600, .inl fm)), (mk, .inl (T 0, 320, .inl fk))]) [4, 0, 1, 2, 3] (by decide) rfl
  exact W.fret (v := FP.fconst0) hx hb hr (fun t ht hW => ⟨⟨(many, (nI 2), fb, fl, fm, fk), rfl, show (nI 2) = nI 2 ∧ MR fl fb (N) (Bw) from ⟨rfl, hMR⟩, (by rw [ht]; exact hP9), va_K.moved hW.alike hK, hD9⟩, hS.F ht⟩) hS.2.2 dX6_letterShare_46
set_option maxHeartbeats 4000000 in
set_option maxRecDepth 100000 in
theorem m_letterShare_3 (l : Launch) (D : va_G) (T : Nat → ClassId) (g : Nat → Nat) (sz : Nat) (m0 : Nat) (mb : Nat) (ml : Nat) (mm : Nat) (mk : Nat) (many : Nat) (th : Int32) (fb : Nat → Int32) (fl : Nat → Int32) (fm : Nat → Int32) (fk : Nat → Int32) (N : Nat → Nat) (Bw : Nat → Nat → Nat) (hMR : MR fl fb N Bw) (i : Nat) (hi : i < 6) (k : Nat) (hk : k < 3) (hn0 : N i = 0) : MU l yX6_letterShare wsX6_letterShare ({ frames := 60, cells := 0, slots := 0, locals := 3000 } : Room) D T g [.ref m0, .int (nI i), .int (nI k)] [(m0, .inr (3, [.ref mb, .ref ml, .ref mm, .int (nI many), .int th, .ref mk])), (mb, .inl (T 0, 1920, .inl fb)), (ml, .inl (T 0, 6, .inl fl)), (mm, .inl (T 0, 600, .inl fm)), (mk, .inl (T 0, 320, .inl fk))] sz (fun u : Nat × Int32 × (Nat → Int32) × (Nat → Int32) × (Nat → Int32) × (Nat → Int32) => some (.float FP.fconst0)) (fun u : Nat × Int32 × (Nat → Int32) × (Nat → Int32) × (Nat → Int32) × (Nat → Int32) => u.2.1 = nI 3 ∧ MR u.2.2.2.1 u.2.2.1 (N) (Bw)) (fun u : Nat × Int32 × (Nat → Int32) × (Nat → Int32) × (Nat → Int32) × (Nat → Int32) => [(m0, .inr (3, [.ref mb, .ref ml, .ref mm, .int (nI u.1), .int u.2.1, .ref mk])), (mb, .inl (T 0, 1920, .inl u.2.2.1)), (ml, .inl (T 0, 6, .inl u.2.2.2.1)), (mm, .inl (T 0, 600, .inl u.2.2.2.2.1)), (mk, .inl (T 0, 320, .inl u.2.2.2.2.2))]) 0 0 := by
  refine Met.ofW (cc := cX6_letterShare) (maxL := 3) (ret := (some .float)) (by decide) rfl ?_
  intro p e s m args below meth c s₁ B hml hv
  obtain ⟨rfl, hsz, hP, hK, hD0, hG⟩ := hv
  have hx := B.exec
  have hb := B.bytes
  have hr := B.returns
  have hts := atoms_spec (ws := wsX6_letterShare) B.pre
  have hown : s.vm.findClass RX6 = some m.cls := findClass_of_methodNamed B.named
  have hlocks := B.notSynchronized
  have hi_X6 : ∀ w ∈ wsX60, w ∈ wsX6_letterShare := by decide +kernel
  subst hsz
  have hD := hD0.self (sz := s.heap.size)
  generalize hAe : va_A [(m0, .inr (3, [.ref mb, .ref ml, .ref mm, .int (nI many), .int th, .ref mk])), (mb, .inl (T 0, 1920, .inl fb)), (ml, .inl (T 0, 6, .inl fl)), (mm, .inl (T 0, 600, .inl fm)), (mk, .inl (T 0, 320, .inl fk))] s.heap.size = A at hD hG ⊢
  have hA : ∀ q : Nat, s.heap.size ≤ q → A q := fun q h => by rw [← hAe]; exact Or.inr h
  have hS : va_S A s.heap s.heap [] := va_S.rf
  have hP : va_P D cls [(m0, .inr (3, [.ref mb, .ref ml, .ref mm, .int (nI many), .int th, .ref mk])), (mb, .inl (T 0, 1920, .inl fb)), (ml, .inl (T 0, 6, .inl fl)), (mm, .inl (T 0, 600, .inl fm)), (mk, .inl (T 0, 320, .inl fk))] s.heap := hP
  have hl := lv_entry ([.ref m0, .int (nI i), .int (nI k)]) (n := 3) (Nat.le_of_ble_eq_true rfl)
  rw [lg_entry_eq]
  generalize (lg_sl ([.ref m0, .int (nI i), .int (nI k)]) ++ List.replicate (3 - (lg_sl ([.ref m0, .int (nI i), .int (nI k)])).length) Slot.unset).toArray = ls at hl ⊢
  have hl : lv_has ls 3 [(0, .ref m0), (1, .int (nI i)), (2, .int (nI k))] := hl
  have hrow := hMR i hi
  have hn := hrow.2.1
  refine lv_aload_n hx hb dX6_letterShare_0 rfl (lv_at hl 0 rfl) ?_
  refine lv_aload_n hx hb dX6_letterShare_1 rfl (lv_at hl 0 rfl) ?_
  refine lv_iload_n hx hb dX6_letterShare_2 rfl (lv_at hl 1 rfl) ?_
  refine ro_V (As := [.int (nI i)]) (rest := [.ref m0]) (wc := []) (r := .int (nI 1)) ⟨hx, hb, hml, hown, hts⟩ (c_X6_isRow_y l D T g m0 i (by omega)) (cwV 1 hts gX6_letterShare_X6_isRow rfl rfl rfl (by decide +kernel) ⟨Nat.le_of_ble_eq_true rfl, Nat.le_of_ble_eq_true rfl⟩) (va_recv hK hP (ci := 3) (q0 := 0) rfl rfl) hP hK hG hS [] rfl ⟨Nat.zero_le _, Nat.zero_le _⟩ rfl hl.1 (Nat.le_of_ble_eq_true rfl) dX6_letterShare_3 rfl ?_
  refine ln_if_ne_t (tgt := 13) hx hb (by omega) (by decide) dX6_letterShare_6 (by decide) ?_
  refine lv_aload_n hx hb dX6_letterShare_13 rfl (lv_at hl 0 rfl) ?_
  refine lv_iload_n hx hb dX6_letterShare_14 rfl (lv_at hl 2 rfl) ?_
  refine ro_V (As := [.int (nI k)]) (rest := [.ref m0]) (wc := []) (r := .int (nI 1)) ⟨hx, hb, hml, hown, hts⟩ (c_X6_isKind_y l D T g m0 k (by omega)) (cwV 1 hts gX6_letterShare_X6_isKind rfl rfl rfl (by decide +kernel) ⟨Nat.le_of_ble_eq_true rfl, Nat.le_of_ble_eq_true rfl⟩) (va_recv hK hP (ci := 3) (q0 := 0) rfl rfl) hP hK hG hS [] rfl ⟨Nat.zero_le _, Nat.zero_le _⟩ rfl hl.1 (Nat.le_of_ble_eq_true rfl) dX6_letterShare_15 rfl ?_
  refine ln_if_ne_t (tgt := 25) hx hb (by omega) (by decide) dX6_letterShare_18 (by decide) ?_
  refine lv_aload_n hx hb dX6_letterShare_25 rfl (lv_at hl 0 rfl) ?_
  refine va_get (D := D) (ci := 3) (v := .ref ml) (C := RX6) (T := TX6) (N := 6) hx hb hts hi_X6 hown hK hP 0 rfl rfl 1 (by decide) (hts _ (List.mem_of_getElem? (i := 1) rfl)) (fun _ h9 => h9) rfl dX6_letterShare_26 ?_
  refine lv_iload_n hx hb dX6_letterShare_29 rfl (lv_at hl 1 rfl) ?_
  refine ln_iald hx hb hK hP 2 0 rfl rfl ⟨by omega, by omega⟩ dX6_letterShare_30 ?_
  rw [show fl i = nI (N i) from hrow.1]
  refine ln_if_ne_f (tgt := 38) hx hb (by omega) (hn0) dX6_letterShare_31 (by decide) ?_
  refine lv_iconst (v := (nI 3)) hx hb dX6_letterShare_34 (by decide +kernel) ?_
  refine lv_goto (tgt := 39) hx hb dX6_letterShare_35 (by decide) ?_
  refine mu_V (As := [.int (nI 3)]) (rest := []) (wc := [(m0, .inr (3, [.ref mb, .ref ml, .ref mm, .int (nI many), .int th, .ref mk]))]) (wr := [(mb, .inl (T 0, 1920, .inl fb)), (ml, .inl (T 0, 6, .inl fl)), (mm, .inl (T 0, 600, .inl fm)), (mk, .inl (T 0, 320, .inl fk))]) ⟨hx, hb, hml, hown, hts⟩ (c_X6_isWrong_p l D T g s.heap.size m0 mb ml mm mk many th 3 (by omega)) (cwV 1 hts gX6_letterShare_X6_isWrong rfl rfl rfl (by decide +kernel) ⟨Nat.le_of_ble_eq_true rfl, Nat.le_of_ble_eq_true rfl⟩) (va_recv hK hP (ci := 3) (q0 := 0) rfl rfl) hP hD hK hG hS hA [0] [1, 2, 3, 4] rfl (by decide) rfl (by decide) (by decide) ⟨Nat.le_of_ble_eq_true rfl, Nat.le_of_ble_eq_true rfl⟩ rfl hl.1 (Nat.le_of_ble_eq_true rfl) dX6_letterShare_39 rfl (fun u H locs hq1 hP hD hS => ?_)
  have hP : va_P D cls [(mb, .inl (T 0, 1920, .inl fb)), (ml, .inl (T 0, 6, .inl fl)), (mm, .inl (T 0, 600, .inl fm)), (mk, .inl (T 0, 320, .inl fk)), (m0, .inr (3, [.ref mb, .ref ml, .ref mm, .int (nI many), .int (nI 3), .ref mk]))] H := hP
  have hD : va_D A [(mb, .inl (T 0, 1920, .inl fb)), (ml, .inl (T 0, 6, .inl fl)), (mm, .inl (T 0, 600, .inl fm)), (mk, .inl (T 0, 320, .inl fk)), (m0, .inr (3, [.ref mb, .ref ml, .ref mm, .int (nI many), .int (nI 3), .ref mk]))] := hD
  refine W.eq (g2 := F0 m 42 ls [.int (nI 1)]) rfl ?_
  refine ln_if_eq_f (tgt := 47) hx hb (by omega) (by decide) dX6_letterShare_42 (by decide) ?_
  refine lv_fconst0 hx hb dX6_letterShare_45 ?_
  have hP9 := hP.sub (ws' := [(m0, .inr (3, [.ref mb, .ref ml, .ref mm, .int (nI many), .int (nI 3), .ref mk])), (mb, .inl (T 0, 1920, .inl fb)), (ml, .inl (T 0, 6, .inl fl)), (mm, .inl (T 0, 600, .inl fm)), (mk, .inl (T 0, 320, .inl fk))]) [4, 0, 1, 2, 3] rfl
  have hD9 := hD.sub (ws' := [(m0, .inr (3, [.ref mb, .ref ml, .ref mm, .int (nI many), .int (nI 3), .ref mk])), (mb, .inl (T 0, 1920, .inl fb)), (ml, .inl (T 0, 6, .inl fl)), (mm, .inl (T 0, 600, .inl fm)), (mk, .inl (T 0, 320, .inl fk))]) [4, 0, 1, 2, 3] (by decide) rfl
  exact W.fret (v := FP.fconst0) hx hb hr (fun t ht hW => ⟨⟨(many, (nI 3), fb, fl, fm, fk), rfl, show (nI 3) = nI 3 ∧ MR fl fb (N) (Bw) from ⟨rfl, hMR⟩, (by rw [ht]; exact hP9), va_K.moved hW.alike hK, hD9⟩, hS.F ht⟩) hS.2.2 dX6_letterShare_46
set_option maxHeartbeats 4000000 in
set_option maxRecDepth 100000 in
theorem m_growth_1 (l : Launch) (D : va_G) (T : Nat → ClassId) (g : Nat → Nat) (sz : Nat) (m0 : Nat) (mb : Nat) (ml : Nat) (mm : Nat) (mk : Nat) (many : Nat) (th : Int32) (fb : Nat → Int32) (fl : Nat → Int32) (fm : Nat → Int32) (fk : Nat → Int32) (N : Nat → Nat) (Bw : Nat → Nat → Nat) (hMR : MR fl fb N Bw) (i : Int32) (hi : i < 0 ∨ nI 5 < i) (x0 : Int32) : MU l yX6_growth wsX6_growth ({ frames := 60, cells := 0, slots := 0, locals := 3000 } : Room) D T g [.ref m0, .int i, .int x0] [(m0, .inr (3, [.ref mb, .ref ml, .ref mm, .int (nI many), .int th, .ref mk])), (mb, .inl (T 0, 1920, .inl fb)), (ml, .inl (T 0, 6, .inl fl)), (mm, .inl (T 0, 600, .inl fm)), (mk, .inl (T 0, 320, .inl fk))] sz (fun u : Nat × Int32 × (Nat → Int32) × (Nat → Int32) × (Nat → Int32) × (Nat → Int32) => some (.double FP.dconst0)) (fun u : Nat × Int32 × (Nat → Int32) × (Nat → Int32) × (Nat → Int32) × (Nat → Int32) => u.2.1 = nI 1 ∧ MR u.2.2.2.1 u.2.2.1 (N) (Bw)) (fun u : Nat × Int32 × (Nat → Int32) × (Nat → Int32) × (Nat → Int32) × (Nat → Int32) => [(m0, .inr (3, [.ref mb, .ref ml, .ref mm, .int (nI u.1), .int u.2.1, .ref mk])), (mb, .inl (T 0, 1920, .inl u.2.2.1)), (ml, .inl (T 0, 6, .inl u.2.2.2.1)), (mm, .inl (T 0, 600, .inl u.2.2.2.2.1)), (mk, .inl (T 0, 320, .inl u.2.2.2.2.2))]) 0 0 := by
  refine Met.ofW (cc := cX6_growth) (maxL := 3) (ret := (some .double)) (by decide) rfl ?_
  intro p e s m args below meth c s₁ B hml hv
  obtain ⟨rfl, hsz, hP, hK, hD0, hG⟩ := hv
  have hx := B.exec
  have hb := B.bytes
  have hr := B.returns
  have hts := atoms_spec (ws := wsX6_growth) B.pre
  have hown : s.vm.findClass RX6 = some m.cls := findClass_of_methodNamed B.named
  have hlocks := B.notSynchronized
  subst hsz
  have hD := hD0.self (sz := s.heap.size)
  generalize hAe : va_A [(m0, .inr (3, [.ref mb, .ref ml, .ref mm, .int (nI many), .int th, .ref mk])), (mb, .inl (T 0, 1920, .inl fb)), (ml, .inl (T 0, 6, .inl fl)), (mm, .inl (T 0, 600, .inl fm)), (mk, .inl (T 0, 320, .inl fk))] s.heap.size = A at hD hG ⊢
  have hA : ∀ q : Nat, s.heap.size ≤ q → A q := fun q h => by rw [← hAe]; exact Or.inr h
  have hS : va_S A s.heap s.heap [] := va_S.rf
  have hP : va_P D cls [(m0, .inr (3, [.ref mb, .ref ml, .ref mm, .int (nI many), .int th, .ref mk])), (mb, .inl (T 0, 1920, .inl fb)), (ml, .inl (T 0, 6, .inl fl)), (mm, .inl (T 0, 600, .inl fm)), (mk, .inl (T 0, 320, .inl fk))] s.heap := hP
  have hl := lv_entry ([.ref m0, .int i, .int x0]) (n := 3) (Nat.le_of_ble_eq_true rfl)
  rw [lg_entry_eq]
  generalize (lg_sl ([.ref m0, .int i, .int x0]) ++ List.replicate (3 - (lg_sl ([.ref m0, .int i, .int x0])).length) Slot.unset).toArray = ls at hl ⊢
  have hl : lv_has ls 3 [(0, .ref m0), (1, .int i), (2, .int x0)] := hl
  refine lv_aload_n hx hb dX6_growth_0 rfl (lv_at hl 0 rfl) ?_
  refine lv_aload_n hx hb dX6_growth_1 rfl (lv_at hl 0 rfl) ?_
  refine lv_iload_n hx hb dX6_growth_2 rfl (lv_at hl 1 rfl) ?_
  refine ro_V (As := [.int i]) (rest := [.ref m0]) (wc := []) (r := .int (nI 0)) ⟨hx, hb, hml, hown, hts⟩ (c_X6_isRow_n l D T g m0 i hi) (cwV 1 hts gX6_growth_X6_isRow rfl rfl rfl (by decide +kernel) ⟨Nat.le_of_ble_eq_true rfl, Nat.le_of_ble_eq_true rfl⟩) (va_recv hK hP (ci := 3) (q0 := 0) rfl rfl) hP hK hG hS [] rfl ⟨Nat.zero_le _, Nat.zero_le _⟩ rfl hl.1 (Nat.le_of_ble_eq_true rfl) dX6_growth_3 rfl ?_
  refine ln_if_ne_f (tgt := 13) hx hb (by omega) (by decide) dX6_growth_6 (by decide) ?_
  refine lv_iconst (v := (nI 1)) hx hb dX6_growth_9 (by decide +kernel) ?_
  refine lv_goto (tgt := 39) hx hb dX6_growth_10 (by decide) ?_
  refine mu_V (As := [.int (nI 1)]) (rest := []) (wc := [(m0, .inr (3, [.ref mb, .ref ml, .ref mm, .int (nI many), .int th, .ref mk]))]) (wr := [(mb, .inl (T 0, 1920, .inl fb)), (ml, .inl (T 0, 6, .inl fl)), (mm, .inl (T 0, 600, .inl fm)), (mk, .inl (T 0, 320, .inl fk))]) ⟨hx, hb, hml, hown, hts⟩ (c_X6_isWrong_p l D T g s.heap.size m0 mb ml mm mk many th 1 (by omega)) (cwV 1 hts gX6_growth_X6_isWrong rfl rfl rfl (by decide +kernel) ⟨Nat.le_of_ble_eq_true rfl, Nat.le_of_ble_eq_true rfl⟩) (va_recv hK hP (ci := 3) (q0 := 0) rfl rfl) hP hD hK hG hS hA [0] [1, 2, 3, 4] rfl (by decide) rfl (by decide) (by decide) ⟨Nat.le_of_ble_eq_true rfl, Nat.le_of_ble_eq_true rfl⟩ rfl hl.1 (Nat.le_of_ble_eq_true rfl) dX6_growth_39 rfl (fun u H locs hq1 hP hD hS => ?_)
  have hP : va_P D cls [(mb, .inl (T 0, 1920, .inl fb)), (ml, .inl (T 0, 6, .inl fl)), (mm, .inl (T 0, 600, .inl fm)), (mk, .inl (T 0, 320, .inl fk)), (m0, .inr (3, [.ref mb, .ref ml, .ref mm, .int (nI many), .int (nI 1), .ref mk]))] H := hP
  have hD : va_D A [(mb, .inl (T 0, 1920, .inl fb)), (ml, .inl (T 0, 6, .inl fl)), (mm, .inl (T 0, 600, .inl fm)), (mk, .inl (T 0, 320, .inl fk)), (m0, .inr (3, [.ref mb, .ref ml, .ref mm, .int (nI many), .int (nI 1), .ref mk]))] := hD
  refine W.eq (g2 := F0 m 42 ls [.int (nI 1)]) rfl ?_
  refine ln_if_eq_f (tgt := 47) hx hb (by omega) (by decide) dX6_growth_42 (by decide) ?_
  refine lv_dconst0 hx hb dX6_growth_45 ?_
  have hP9 := hP.sub (ws' := [(m0, .inr (3, [.ref mb, .ref ml, .ref mm, .int (nI many), .int (nI 1), .ref mk])), (mb, .inl (T 0, 1920, .inl fb)), (ml, .inl (T 0, 6, .inl fl)), (mm, .inl (T 0, 600, .inl fm)), (mk, .inl (T 0, 320, .inl fk))]) [4, 0, 1, 2, 3] rfl
  have hD9 := hD.sub (ws' := [(m0, .inr (3, [.ref mb, .ref ml, .ref mm, .int (nI many), .int (nI 1), .ref mk])), (mb, .inl (T 0, 1920, .inl fb)), (ml, .inl (T 0, 6, .inl fl)), (mm, .inl (T 0, 600, .inl fm)), (mk, .inl (T 0, 320, .inl fk))]) [4, 0, 1, 2, 3] (by decide) rfl
  exact W.dret (v := FP.dconst0) hx hb hr (fun t ht hW => ⟨⟨(many, (nI 1), fb, fl, fm, fk), rfl, show (nI 1) = nI 1 ∧ MR fl fb (N) (Bw) from ⟨rfl, hMR⟩, (by rw [ht]; exact hP9), va_K.moved hW.alike hK, hD9⟩, hS.F ht⟩) hS.2.2 dX6_growth_46
set_option maxHeartbeats 4000000 in
set_option maxRecDepth 100000 in
theorem m_growth_2 (l : Launch) (D : va_G) (T : Nat → ClassId) (g : Nat → Nat) (sz : Nat) (m0 : Nat) (mb : Nat) (ml : Nat) (mm : Nat) (mk : Nat) (many : Nat) (th : Int32) (fb : Nat → Int32) (fl : Nat → Int32) (fm : Nat → Int32) (fk : Nat → Int32) (N : Nat → Nat) (Bw : Nat → Nat → Nat) (hMR : MR fl fb N Bw) (i : Nat) (hi : i < 6) (k : Int32) (hk : k < 0 ∨ nI 2 < k) : MU l yX6_growth wsX6_growth ({ frames := 60, cells := 0, slots := 0, locals := 3000 } : Room) D T g [.ref m0, .int (nI i), .int k] [(m0, .inr (3, [.ref mb, .ref ml, .ref mm, .int (nI many), .int th, .ref mk])), (mb, .inl (T 0, 1920, .inl fb)), (ml, .inl (T 0, 6, .inl fl)), (mm, .inl (T 0, 600, .inl fm)), (mk, .inl (T 0, 320, .inl fk))] sz (fun u : Nat × Int32 × (Nat → Int32) × (Nat → Int32) × (Nat → Int32) × (Nat → Int32) => some (.double FP.dconst0)) (fun u : Nat × Int32 × (Nat → Int32) × (Nat → Int32) × (Nat → Int32) × (Nat → Int32) => u.2.1 = nI 2 ∧ MR u.2.2.2.1 u.2.2.1 (N) (Bw)) (fun u : Nat × Int32 × (Nat → Int32) × (Nat → Int32) × (Nat → Int32) × (Nat → Int32) => [(m0, .inr (3, [.ref mb, .ref ml, .ref mm, .int (nI u.1), .int u.2.1, .ref mk])), (mb, .inl (T 0, 1920, .inl u.2.2.1)), (ml, .inl (T 0, 6, .inl u.2.2.2.1)), (mm, .inl (T 0, 600, .inl u.2.2.2.2.1)), (mk, .inl (T 0, 320, .inl u.2.2.2.2.2))]) 0 0 := by
  refine Met.ofW (cc := cX6_growth) (maxL := 3) (ret := (some .double)) (by decide) rfl ?_
  intro p e s m args below meth c s₁ B hml hv
  obtain ⟨rfl, hsz, hP, hK, hD0, hG⟩ := hv
  have hx := B.exec
  have hb := B.bytes
  have hr := B.returns
  have hts := atoms_spec (ws := wsX6_growth) B.pre
  have hown : s.vm.findClass RX6 = some m.cls := findClass_of_methodNamed B.named
  have hlocks := B.notSynchronized
  subst hsz
  have hD := hD0.self (sz := s.heap.size)
  generalize hAe : va_A [(m0, .inr (3, [.ref mb, .ref ml, .ref mm, .int (nI many), .int th, .ref mk])), (mb, .inl (T 0, 1920, .inl fb)), (ml, .inl (T 0, 6, .inl fl)), (mm, .inl (T 0, 600, .inl fm)), (mk, .inl (T 0, 320, .inl fk))] s.heap.size = A at hD hG ⊢
  have hA : ∀ q : Nat, s.heap.size ≤ q → A q := fun q h => by rw [← hAe]; exact Or.inr h
  have hS : va_S A s.heap s.heap [] := va_S.rf
  have hP : va_P D cls [(m0, .inr (3, [.ref mb, .ref ml, .ref mm, .int (nI many), .int th, .ref mk])), (mb, .inl (T 0, 1920, .inl fb)), (ml, .inl (T 0, 6, .inl fl)), (mm, .inl (T 0, 600, .inl fm)), (mk, .inl (T 0, 320, .inl fk))] s.heap := hP
  have hl := lv_entry ([.ref m0, .int (nI i), .int k]) (n := 3) (Nat.le_of_ble_eq_true rfl)
  rw [lg_entry_eq]
  generalize (lg_sl ([.ref m0, .int (nI i), .int k]) ++ List.replicate (3 - (lg_sl ([.ref m0, .int (nI i), .int k])).length) Slot.unset).toArray = ls at hl ⊢
  have hl : lv_has ls 3 [(0, .ref m0), (1, .int (nI i)), (2, .int k)] := hl
  refine lv_aload_n hx hb dX6_growth_0 rfl (lv_at hl 0 rfl) ?_
  refine lv_aload_n hx hb dX6_growth_1 rfl (lv_at hl 0 rfl) ?_
  refine lv_iload_n hx hb dX6_growth_2 rfl (lv_at hl 1 rfl) ?_
  refine ro_V (As := [.int (nI i)]) (rest := [.ref m0]) (wc := []) (r := .int (nI 1)) ⟨hx, hb, hml, hown, hts⟩ (c_X6_isRow_y l D T g m0 i (by omega)) (cwV 1 hts gX6_growth_X6_isRow rfl rfl rfl (by decide +kernel) ⟨Nat.le_of_ble_eq_true rfl, Nat.le_of_ble_eq_true rfl⟩) (va_recv hK hP (ci := 3) (q0 := 0) rfl rfl) hP hK hG hS [] rfl ⟨Nat.zero_le _, Nat.zero_le _⟩ rfl hl.1 (Nat.le_of_ble_eq_true rfl) dX6_growth_3 rfl ?_
  refine ln_if_ne_t (tgt := 13) hx hb (by omega) (by decide) dX6_growth_6 (by decide) ?_
  refine lv_aload_n hx hb dX6_growth_13 rfl (lv_at hl 0 rfl) ?_
  refine lv_iload_n hx hb dX6_growth_14 rfl (lv_at hl 2 rfl) ?_
  refine ro_V (As := [.int k]) (rest := [.ref m0]) (wc := []) (r := .int (nI 0)) ⟨hx, hb, hml, hown, hts⟩ (c_X6_isKind_n l D T g m0 k hk) (cwV 1 hts gX6_growth_X6_isKind rfl rfl rfl (by decide +kernel) ⟨Nat.le_of_ble_eq_true rfl, Nat.le_of_ble_eq_true rfl⟩) (va_recv hK hP (ci := 3) (q0 := 0) rfl rfl) hP hK hG hS [] rfl ⟨Nat.zero_le _, Nat.zero_le _⟩ rfl hl.1 (Nat.le_of_ble_eq_true rfl) dX6_growth_15 rfl ?_
  refine ln_if_ne_f (tgt := 25) hx hb (by omega) (by decide) dX6_growth_18 (by decide) ?_
  refine lv_iconst (v := (nI 2)) hx hb dX6_growth_21 (by decide +kernel) ?_
  refine lv_goto (tgt := 39) hx hb dX6_growth_22 (by decide) ?_
  refine mu_V (As := [.int (nI 2)]) (rest := []) (wc := [(m0, .inr (3, [.ref mb, .ref ml, .ref mm, .int (nI many), .int th, .ref mk]))]) (wr := [(mb, .inl (T 0, 1920, .inl fb)), (ml, .inl (T 0, 6, .inl fl)), (mm, .inl (T 0, 600, .inl fm)), (mk, .inl (T 0, 320, .inl fk))]) ⟨hx, hb, hml, hown, hts⟩ (c_X6_isWrong_p l D T g s.heap.size m0 mb ml mm mk many th 2 (by omega)) (cwV 1 hts gX6_growth_X6_isWrong rfl rfl rfl (by decide +kernel) ⟨Nat.le_of_ble_eq_true rfl, Nat.le_of_ble_eq_true rfl⟩) (va_recv hK hP (ci := 3) (q0 := 0) rfl rfl) hP hD hK hG hS hA [0] [1, 2, 3, 4] rfl (by decide) rfl (by decide) (by decide) ⟨Nat.le_of_ble_eq_true rfl, Nat.le_of_ble_eq_true rfl⟩ rfl hl.1 (Nat.le_of_ble_eq_true rfl) dX6_growth_39 rfl (fun u H locs hq1 hP hD hS => ?_)
  have hP : va_P D cls [(mb, .inl (T 0, 1920, .inl fb)), (ml, .inl (T 0, 6, .inl fl)), (mm, .inl (T 0, 600, .inl fm)), (mk, .inl (T 0, 320, .inl fk)), (m0, .inr (3, [.ref mb, .ref ml, .ref mm, .int (nI many), .int (nI 2), .ref mk]))] H := hP
  have hD : va_D A [(mb, .inl (T 0, 1920, .inl fb)), (ml, .inl (T 0, 6, .inl fl)), (mm, .inl (T 0, 600, .inl fm)), (mk, .inl (T 0, 320, .inl fk)), (m0, .inr (3, [.ref mb, .ref ml, .ref mm, .int (nI many), .int (nI 2), .ref mk]))] := hD
  refine W.eq (g2 := F0 m 42 ls [.int (nI 1)]) rfl ?_
  refine ln_if_eq_f (tgt := 47) hx hb (by omega) (by decide) dX6_growth_42 (by decide) ?_
  refine lv_dconst0 hx hb dX6_growth_45 ?_
  have hP9 := hP.sub (ws' := [(m0, .inr (3, [.ref mb, .ref ml, .ref mm, .int (nI many), .int (nI 2), .ref mk])), (mb, .inl (T 0, 1920, .inl fb)), (ml, .inl (T 0, 6, .inl fl)), (mm, .inl (T 0, 600, .inl fm)), (mk, .inl (T 0, 320, .inl fk))]) [4, 0, 1, 2, 3] rfl
  have hD9 := hD.sub (ws' := [(m0, .inr (3, [.ref mb, .ref ml, .ref mm, .int (nI many), .int (nI 2), .ref mk])), (mb, .inl (T 0, 1920, .inl fb)), (ml, .inl (T 0, 6, .inl fl)), (mm, .inl (T 0, 600, .inl fm)), (mk, .inl (T 0, 320, .inl fk))]) [4, 0, 1, 2, 3] (by decide) rfl
  exact W.dret (v := FP.dconst0) hx hb hr (fun t ht hW => ⟨⟨(many, (nI 2), fb, fl, fm, fk), rfl, show (nI 2) = nI 2 ∧ MR fl fb (N) (Bw) from ⟨rfl, hMR⟩, (by rw [ht]; exact hP9), va_K.moved hW.alike hK, hD9⟩, hS.F ht⟩) hS.2.2 dX6_growth_46
set_option maxHeartbeats 4000000 in
set_option maxRecDepth 100000 in
theorem m_growth_3 (l : Launch) (D : va_G) (T : Nat → ClassId) (g : Nat → Nat) (sz : Nat) (m0 : Nat) (mb : Nat) (ml : Nat) (mm : Nat) (mk : Nat) (many : Nat) (th : Int32) (fb : Nat → Int32) (fl : Nat → Int32) (fm : Nat → Int32) (fk : Nat → Int32) (N : Nat → Nat) (Bw : Nat → Nat → Nat) (hMR : MR fl fb N Bw) (i : Nat) (hi : i < 6) (k : Nat) (hk : k < 3) (hn0 : N i = 0) : MU l yX6_growth wsX6_growth ({ frames := 60, cells := 0, slots := 0, locals := 3000 } : Room) D T g [.ref m0, .int (nI i), .int (nI k)] [(m0, .inr (3, [.ref mb, .ref ml, .ref mm, .int (nI many), .int th, .ref mk])), (mb, .inl (T 0, 1920, .inl fb)), (ml, .inl (T 0, 6, .inl fl)), (mm, .inl (T 0, 600, .inl fm)), (mk, .inl (T 0, 320, .inl fk))] sz (fun u : Nat × Int32 × (Nat → Int32) × (Nat → Int32) × (Nat → Int32) × (Nat → Int32) => some (.double FP.dconst0)) (fun u : Nat × Int32 × (Nat → Int32) × (Nat → Int32) × (Nat → Int32) × (Nat → Int32) => u.2.1 = nI 3 ∧ MR u.2.2.2.1 u.2.2.1 (N) (Bw)) (fun u : Nat × Int32 × (Nat → Int32) × (Nat → Int32) × (Nat → Int32) × (Nat → Int32) => [(m0, .inr (3, [.ref mb, .ref ml, .ref mm, .int (nI u.1), .int u.2.1, .ref mk])), (mb, .inl (T 0, 1920, .inl u.2.2.1)), (ml, .inl (T 0, 6, .inl u.2.2.2.1)), (mm, .inl (T 0, 600, .inl u.2.2.2.2.1)), (mk, .inl (T 0, 320, .inl u.2.2.2.2.2))]) 0 0 := by
  refine Met.ofW (cc := cX6_growth) (maxL := 3) (ret := (some .double)) (by decide) rfl ?_
  intro p e s m args below meth c s₁ B hml hv
  obtain ⟨rfl, hsz, hP, hK, hD0, hG⟩ := hv
  have hx := B.exec
  have hb := B.bytes
  have hr := B.returns
  have hts := atoms_spec (ws := wsX6_growth) B.pre
  have hown : s.vm.findClass RX6 = some m.cls := findClass_of_methodNamed B.named
  have hlocks := B.notSynchronized
  have hi_X6 : ∀ w ∈ wsX60, w ∈ wsX6_growth := by decide +kernel
  subst hsz
  have hD := hD0.self (sz := s.heap.size)
  generalize hAe : va_A [(m0, .inr (3, [.ref mb, .ref ml, .ref mm, .int (nI many), .int th, .ref mk])), (mb, .inl (T 0, 1920, .inl fb)), (ml, .inl (T 0, 6, .inl fl)), (mm, .inl (T 0, 600, .inl fm)), (mk, .inl (T 0, 320, .inl fk))] s.heap.size = A at hD hG ⊢
  have hA : ∀ q : Nat, s.heap.size ≤ q → A q := fun q h => by rw [← hAe]; exact Or.inr h
  have hS : va_S A s.heap s.heap [] := va_S.rf
  have hP : va_P D cls [(m0, .inr (3, [.ref mb, .ref ml, .ref mm, .int (nI many), .int th, .ref mk])), (mb, .inl (T 0, 1920, .inl fb)), (ml, .inl (T 0, 6, .inl fl)), (mm, .inl (T 0, 600, .inl fm)), (mk, .inl (T 0, 320, .inl fk))] s.heap := hP
  have hl := lv_entry ([.ref m0, .int (nI i), .int (nI k)]) (n := 3) (Nat.le_of_ble_eq_true rfl)
  rw [lg_entry_eq]
  generalize (lg_sl ([.ref m0, .int (nI i), .int (nI k)]) ++ List.replicate (3 - (lg_sl ([.ref m0, .int (nI i), .int (nI k)])).length) Slot.unset).toArray = ls at hl ⊢
  have hl : lv_has ls 3 [(0, .ref m0), (1, .int (nI i)), (2, .int (nI k))] := hl
  have hrow := hMR i hi
  have hn := hrow.2.1
  refine lv_aload_n hx hb dX6_growth_0 rfl (lv_at hl 0 rfl) ?_
  refine lv_aload_n hx hb dX6_growth_1 rfl (lv_at hl 0 rfl) ?_
  refine lv_iload_n hx hb dX6_growth_2 rfl (lv_at hl 1 rfl) ?_
  refine ro_V (As := [.int (nI i)]) (rest := [.ref m0]) (wc := []) (r := .int (nI 1)) ⟨hx, hb, hml, hown, hts⟩ (c_X6_isRow_y l D T g m0 i (by omega)) (cwV 1 hts gX6_growth_X6_isRow rfl rfl rfl (by decide +kernel) ⟨Nat.le_of_ble_eq_true rfl, Nat.le_of_ble_eq_true rfl⟩) (va_recv hK hP (ci := 3) (q0 := 0) rfl rfl) hP hK hG hS [] rfl ⟨Nat.zero_le _, Nat.zero_le _⟩ rfl hl.1 (Nat.le_of_ble_eq_true rfl) dX6_growth_3 rfl ?_
  refine ln_if_ne_t (tgt := 13) hx hb (by omega) (by decide) dX6_growth_6 (by decide) ?_
  refine lv_aload_n hx hb dX6_growth_13 rfl (lv_at hl 0 rfl) ?_
  refine lv_iload_n hx hb dX6_growth_14 rfl (lv_at hl 2 rfl) ?_
  refine ro_V (As := [.int (nI k)]) (rest := [.ref m0]) (wc := []) (r := .int (nI 1)) ⟨hx, hb, hml, hown, hts⟩ (c_X6_isKind_y l D T g m0 k (by omega)) (cwV 1 hts gX6_growth_X6_isKind rfl rfl rfl (by decide +kernel) ⟨Nat.le_of_ble_eq_true rfl, Nat.le_of_ble_eq_true rfl⟩) (va_recv hK hP (ci := 3) (q0 := 0) rfl rfl) hP hK hG hS [] rfl ⟨Nat.zero_le _, Nat.zero_le _⟩ rfl hl.1 (Nat.le_of_ble_eq_true rfl) dX6_growth_15 rfl ?_
  refine ln_if_ne_t (tgt := 25) hx hb (by omega) (by decide) dX6_growth_18 (by decide) ?_
  refine lv_aload_n hx hb dX6_growth_25 rfl (lv_at hl 0 rfl) ?_
  refine va_get (D := D) (ci := 3) (v := .ref ml) (C := RX6) (T := TX6) (N := 6) hx hb hts hi_X6 hown hK hP 0 rfl rfl 1 (by decide) (hts _ (List.mem_of_getElem? (i := 1) rfl)) (fun _ h9 => h9) rfl dX6_growth_26 ?_
  refine lv_iload_n hx hb dX6_growth_29 rfl (lv_at hl 1 rfl) ?_
  refine ln_iald hx hb hK hP 2 0 rfl rfl ⟨by omega, by omega⟩ dX6_growth_30 ?_
  rw [show fl i = nI (N i) from hrow.1]
  refine ln_if_ne_f (tgt := 38) hx hb (by omega) (hn0) dX6_growth_31 (by decide) ?_
  refine lv_iconst (v := (nI 3)) hx hb dX6_growth_34 (by decide +kernel) ?_
  refine lv_goto (tgt := 39) hx hb dX6_growth_35 (by decide) ?_
  refine mu_V (As := [.int (nI 3)]) (rest := []) (wc := [(m0, .inr (3, [.ref mb, .ref ml, .ref mm, .int (nI many), .int th, .ref mk]))]) (wr := [(mb, .inl (T 0, 1920, .inl fb)), (ml, .inl (T 0, 6, .inl fl)), (mm, .inl (T 0, 600, .inl fm)), (mk, .inl (T 0, 320, .inl fk))]) ⟨hx, hb, hml, hown, hts⟩ (c_X6_isWrong_p l D T g s.heap.size m0 mb ml mm mk many th 3 (by omega)) (cwV 1 hts gX6_growth_X6_isWrong rfl rfl rfl (by decide +kernel) ⟨Nat.le_of_ble_eq_true rfl, Nat.le_of_ble_eq_true rfl⟩) (va_recv hK hP (ci := 3) (q0 := 0) rfl rfl) hP hD hK hG hS hA [0] [1, 2, 3, 4] rfl (by decide) rfl (by decide) (by decide) ⟨Nat.le_of_ble_eq_true rfl, Nat.le_of_ble_eq_true rfl⟩ rfl hl.1 (Nat.le_of_ble_eq_true rfl) dX6_growth_39 rfl (fun u H locs hq1 hP hD hS => ?_)
  have hP : va_P D cls [(mb, .inl (T 0, 1920, .inl fb)), (ml, .inl (T 0, 6, .inl fl)), (mm, .inl (T 0, 600, .inl fm)), (mk, .inl (T 0, 320, .inl fk)), (m0, .inr (3, [.ref mb, .ref ml, .ref mm, .int (nI many), .int (nI 3), .ref mk]))] H := hP
  have hD : va_D A [(mb, .inl (T 0, 1920, .inl fb)), (ml, .inl (T 0, 6, .inl fl)), (mm, .inl (T 0, 600, .inl fm)), (mk, .inl (T 0, 320, .inl fk)), (m0, .inr (3, [.ref mb, .ref ml, .ref mm, .int (nI many), .int (nI 3), .ref mk]))] := hD
  refine W.eq (g2 := F0 m 42 ls [.int (nI 1)]) rfl ?_
  refine ln_if_eq_f (tgt := 47) hx hb (by omega) (by decide) dX6_growth_42 (by decide) ?_
  refine lv_dconst0 hx hb dX6_growth_45 ?_
  have hP9 := hP.sub (ws' := [(m0, .inr (3, [.ref mb, .ref ml, .ref mm, .int (nI many), .int (nI 3), .ref mk])), (mb, .inl (T 0, 1920, .inl fb)), (ml, .inl (T 0, 6, .inl fl)), (mm, .inl (T 0, 600, .inl fm)), (mk, .inl (T 0, 320, .inl fk))]) [4, 0, 1, 2, 3] rfl
  have hD9 := hD.sub (ws' := [(m0, .inr (3, [.ref mb, .ref ml, .ref mm, .int (nI many), .int (nI 3), .ref mk])), (mb, .inl (T 0, 1920, .inl fb)), (ml, .inl (T 0, 6, .inl fl)), (mm, .inl (T 0, 600, .inl fm)), (mk, .inl (T 0, 320, .inl fk))]) [4, 0, 1, 2, 3] (by decide) rfl
  exact W.dret (v := FP.dconst0) hx hb hr (fun t ht hW => ⟨⟨(many, (nI 3), fb, fl, fm, fk), rfl, show (nI 3) = nI 3 ∧ MR fl fb (N) (Bw) from ⟨rfl, hMR⟩, (by rw [ht]; exact hP9), va_K.moved hW.alike hK, hD9⟩, hS.F ht⟩) hS.2.2 dX6_growth_46
set_option maxHeartbeats 4000000 in
set_option maxRecDepth 100000 in
theorem m_letterShare (l : Launch) (D : va_G) (T : Nat → ClassId) (g : Nat → Nat) (sz : Nat) (m0 : Nat) (mb : Nat) (ml : Nat) (mm : Nat) (mk : Nat) (many : Nat) (th : Int32) (fb : Nat → Int32) (fl : Nat → Int32) (fm : Nat → Int32) (fk : Nat → Int32) (N : Nat → Nat) (Bw : Nat → Nat → Nat) (hMR : MR fl fb N Bw) (i : Nat) (hi : i < 6) (k : Nat) (hk : k < 3) (hn0 : 0 < N i) : MU l yX6_letterShare wsX6_letterShare ({ frames := 60, cells := 0, slots := 0, locals := 3000 } : Room) D T g [.ref m0, .int (nI i), .int (nI k)] [(m0, .inr (3, [.ref mb, .ref ml, .ref mm, .int (nI many), .int th, .ref mk])), (mb, .inl (T 0, 1920, .inl fb)), (ml, .inl (T 0, 6, .inl fl)), (mm, .inl (T 0, 600, .inl fm)), (mk, .inl (T 0, 320, .inl fk))] sz (fun u : Nat × Int32 × (Nat → Int32) × (Nat → Int32) × (Nat → Int32) × (Nat → Int32) => some (.float (FP.fdiv (FP.i2f (nI (ctN (ltB k (Bw i)) (N i)))) (FP.i2f (nI (N i)))))) (fun u : Nat × Int32 × (Nat → Int32) × (Nat → Int32) × (Nat → Int32) × (Nat → Int32) => u.2.1 = nI 0 ∧ MR u.2.2.2.1 u.2.2.1 (N) (Bw)) (fun u : Nat × Int32 × (Nat → Int32) × (Nat → Int32) × (Nat → Int32) × (Nat → Int32) => [(m0, .inr (3, [.ref mb, .ref ml, .ref mm, .int (nI u.1), .int u.2.1, .ref mk])), (mb, .inl (T 0, 1920, .inl u.2.2.1)), (ml, .inl (T 0, 6, .inl u.2.2.2.1)), (mm, .inl (T 0, 600, .inl u.2.2.2.2.1)), (mk, .inl (T 0, 320, .inl u.2.2.2.2.2))]) 0 0 := by
  refine Met.ofW (cc := cX6_letterShare) (maxL := 3) (ret := (some .float)) (by decide) rfl ?_
  intro p e s m args below meth c s₁ B hml hv
  obtain ⟨rfl, hsz, hP, hK, hD0, hG⟩ := hv
  have hx := B.exec
  have hb := B.bytes
  have hr := B.returns
  have hts := atoms_spec (ws := wsX6_letterShare) B.pre
  have hown : s.vm.findClass RX6 = some m.cls := findClass_of_methodNamed B.named
  have hlocks := B.notSynchronized
  have hi_X6 : ∀ w ∈ wsX60, w ∈ wsX6_letterShare := by decide +kernel
  subst hsz
  have hD := hD0.self (sz := s.heap.size)
  generalize hAe : va_A [(m0, .inr (3, [.ref mb, .ref ml, .ref mm, .int (nI many), .int th, .ref mk])), (mb, .inl (T 0, 1920, .inl fb)), (ml, .inl (T 0, 6, .inl fl)), (mm, .inl (T 0, 600, .inl fm)), (mk, .inl (T 0, 320, .inl fk))] s.heap.size = A at hD hG ⊢
  have hA : ∀ q : Nat, s.heap.size ≤ q → A q := fun q h => by rw [← hAe]; exact Or.inr h
  have hS : va_S A s.heap s.heap [] := va_S.rf
  have hP : va_P D cls [(m0, .inr (3, [.ref mb, .ref ml, .ref mm, .int (nI many), .int th, .ref mk])), (mb, .inl (T 0, 1920, .inl fb)), (ml, .inl (T 0, 6, .inl fl)), (mm, .inl (T 0, 600, .inl fm)), (mk, .inl (T 0, 320, .inl fk))] s.heap := hP
  have hl := lv_entry ([.ref m0, .int (nI i), .int (nI k)]) (n := 3) (Nat.le_of_ble_eq_true rfl)
  rw [lg_entry_eq]
  generalize (lg_sl ([.ref m0, .int (nI i), .int (nI k)]) ++ List.replicate (3 - (lg_sl ([.ref m0, .int (nI i), .int (nI k)])).length) Slot.unset).toArray = ls at hl ⊢
  have hl : lv_has ls 3 [(0, .ref m0), (1, .int (nI i)), (2, .int (nI k))] := hl
  have hrow := hMR i hi
  have hn := hrow.2.1
  have hc9 := ctN_le (ltB k (Bw i)) (N i)
  refine lv_aload_n hx hb dX6_letterShare_0 rfl (lv_at hl 0 rfl) ?_
  refine lv_aload_n hx hb dX6_letterShare_1 rfl (lv_at hl 0 rfl) ?_
  refine lv_iload_n hx hb dX6_letterShare_2 rfl (lv_at hl 1 rfl) ?_
  refine ro_V (As := [.int (nI i)]) (rest := [.ref m0]) (wc := []) (r := .int (nI 1)) ⟨hx, hb, hml, hown, hts⟩ (c_X6_isRow_y l D T g m0 i (by omega)) (cwV 1 hts gX6_letterShare_X6_isRow rfl rfl rfl (by decide +kernel) ⟨Nat.le_of_ble_eq_true rfl, Nat.le_of_ble_eq_true rfl⟩) (va_recv hK hP (ci := 3) (q0 := 0) rfl rfl) hP hK hG hS [] rfl ⟨Nat.zero_le _, Nat.zero_le _⟩ rfl hl.1 (Nat.le_of_ble_eq_true rfl) dX6_letterShare_3 rfl ?_
  refine ln_if_ne_t (tgt := 13) hx hb (by omega) (by decide) dX6_letterShare_6 (by decide) ?_
  refine lv_aload_n hx hb dX6_letterShare_13 rfl (lv_at hl 0 rfl) ?_
  refine lv_iload_n hx hb dX6_letterShare_14 rfl (lv_at hl 2 rfl) ?_
  refine ro_V (As := [.int (nI k)]) (rest := [.ref m0]) (wc := []) (r := .int (nI 1)) ⟨hx, hb, hml, hown, hts⟩ (c_X6_isKind_y l D T g m0 k (by omega)) (cwV 1 hts gX6_letterShare_X6_isKind rfl rfl rfl (by decide +kernel) ⟨Nat.le_of_ble_eq_true rfl, Nat.le_of_ble_eq_true rfl⟩) (va_recv hK hP (ci := 3) (q0 := 0) rfl rfl) hP hK hG hS [] rfl ⟨Nat.zero_le _, Nat.zero_le _⟩ rfl hl.1 (Nat.le_of_ble_eq_true rfl) dX6_letterShare_15 rfl ?_
  refine ln_if_ne_t (tgt := 25) hx hb (by omega) (by decide) dX6_letterShare_18 (by decide) ?_
  refine lv_aload_n hx hb dX6_letterShare_25 rfl (lv_at hl 0 rfl) ?_
  refine va_get (D := D) (ci := 3) (v := .ref ml) (C := RX6) (T := TX6) (N := 6) hx hb hts hi_X6 hown hK hP 0 rfl rfl 1 (by decide) (hts _ (List.mem_of_getElem? (i := 1) rfl)) (fun _ h9 => h9) rfl dX6_letterShare_26 ?_
  refine lv_iload_n hx hb dX6_letterShare_29 rfl (lv_at hl 1 rfl) ?_
  refine ln_iald hx hb hK hP 2 0 rfl rfl ⟨by omega, by omega⟩ dX6_letterShare_30 ?_
  rw [show fl i = nI (N i) from hrow.1]
  refine ln_if_ne_t (tgt := 38) hx hb (by omega) (by omega) dX6_letterShare_31 (by decide) ?_
  refine lv_iconst (v := (nI 0)) hx hb dX6_letterShare_38 (by decide +kernel) ?_
  refine mu_V (As := [.int (nI 0)]) (rest := []) (wc := [(m0, .inr (3, [.ref mb, .ref ml, .ref mm, .int (nI many), .int th, .ref mk]))]) (wr := [(mb, .inl (T 0, 1920, .inl fb)), (ml, .inl (T 0, 6, .inl fl)), (mm, .inl (T 0, 600, .inl fm)), (mk, .inl (T 0, 320, .inl fk))]) ⟨hx, hb, hml, hown, hts⟩ (c_X6_isWrong_0 l D T g s.heap.size m0 mb ml mm mk many th) (cwV 1 hts gX6_letterShare_X6_isWrong rfl rfl rfl (by decide +kernel) ⟨Nat.le_of_ble_eq_true rfl, Nat.le_of_ble_eq_true rfl⟩) (va_recv hK hP (ci := 3) (q0 := 0) rfl rfl) hP hD hK hG hS hA [0] [1, 2, 3, 4] rfl (by decide) rfl (by decide) (by decide) ⟨Nat.le_of_ble_eq_true rfl, Nat.le_of_ble_eq_true rfl⟩ rfl hl.1 (Nat.le_of_ble_eq_true rfl) dX6_letterShare_39 rfl (fun u H locs hq1 hP hD hS => ?_)
  have hP : va_P D cls [(mb, .inl (T 0, 1920, .inl fb)), (ml, .inl (T 0, 6, .inl fl)), (mm, .inl (T 0, 600, .inl fm)), (mk, .inl (T 0, 320, .inl fk)), (m0, .inr (3, [.ref mb, .ref ml, .ref mm, .int (nI many), .int (nI 0), .ref mk]))] H := hP
  have hD : va_D A [(mb, .inl (T 0, 1920, .inl fb)), (ml, .inl (T 0, 6, .inl fl)), (mm, .inl (T 0, 600, .inl fm)), (mk, .inl (T 0, 320, .inl fk)), (m0, .inr (3, [.ref mb, .ref ml, .ref mm, .int (nI many), .int (nI 0), .ref mk]))] := hD
  refine W.eq (g2 := F0 m 42 ls [.int (nI 0)]) rfl ?_
  refine ln_if_eq_t (tgt := 47) hx hb (by omega) (by decide) dX6_letterShare_42 (by decide) ?_
  refine lv_aload_n hx hb dX6_letterShare_47 rfl (lv_at hl 0 rfl) ?_
  refine lv_iload_n hx hb dX6_letterShare_48 rfl (lv_at hl 1 rfl) ?_
  refine lv_iload_n hx hb dX6_letterShare_49 rfl (lv_at hl 2 rfl) ?_
  refine ro_V (As := [.int (nI i), .int (nI k)]) (rest := []) (wc := [(m0, .inr (3, [.ref mb, .ref ml, .ref mm, .int (nI many), .int (nI 0), .ref mk])), (ml, .inl (T 0, 6, .inl fl)), (mb, .inl (T 0, 1920, .inl fb))]) (r := .int (nI (ctN (ltB k (Bw i)) (N i)))) ⟨hx, hb, hml, hown, hts⟩ (c_X6_lettersOf l D T g m0 mb ml mm mk many (nI 0) fb fl i (N i) (Bw i) hi ((hMR i hi).1) ((hMR i hi).2) k hk) (cwV 2 hts gX6_letterShare_X6_lettersOf rfl rfl rfl (by decide +kernel) ⟨Nat.le_of_ble_eq_true rfl, Nat.le_of_ble_eq_true rfl⟩) (va_recv hK hP (ci := 3) (q0 := 4) rfl rfl) hP hK hG hS [4, 1, 0] rfl ⟨Nat.zero_le _, Nat.zero_le _⟩ rfl hl.1 (Nat.le_of_ble_eq_true rfl) dX6_letterShare_50 rfl ?_
  refine lv_i2f hx hb dX6_letterShare_53 ?_
  refine lv_aload_n hx hb dX6_letterShare_54 rfl (lv_at hl 0 rfl) ?_
  refine va_get (D := D) (ci := 3) (v := .ref ml) (C := RX6) (T := TX6) (N := 6) hx hb hts hi_X6 hown hK hP 4 rfl rfl 1 (by decide) (hts _ (List.mem_of_getElem? (i := 1) rfl)) (fun _ h9 => h9) rfl dX6_letterShare_55 ?_
  refine lv_iload_n hx hb dX6_letterShare_58 rfl (lv_at hl 1 rfl) ?_
  refine ln_iald hx hb hK hP 1 0 rfl rfl ⟨by omega, by omega⟩ dX6_letterShare_59 ?_
  rw [show fl i = nI (N i) from hrow.1]
  refine lv_i2f hx hb dX6_letterShare_60 ?_
  refine lv_fdiv hx hb dX6_letterShare_61 (shF_n (by omega) (by omega) hn0) ?_
  have hP9 := hP.sub (ws' := [(m0, .inr (3, [.ref mb, .ref ml, .ref mm, .int (nI many), .int (nI 0), .ref mk])), (mb, .inl (T 0, 1920, .inl fb)), (ml, .inl (T 0, 6, .inl fl)), (mm, .inl (T 0, 600, .inl fm)), (mk, .inl (T 0, 320, .inl fk))]) [4, 0, 1, 2, 3] rfl
  have hD9 := hD.sub (ws' := [(m0, .inr (3, [.ref mb, .ref ml, .ref mm, .int (nI many), .int (nI 0), .ref mk])), (mb, .inl (T 0, 1920, .inl fb)), (ml, .inl (T 0, 6, .inl fl)), (mm, .inl (T 0, 600, .inl fm)), (mk, .inl (T 0, 320, .inl fk))]) [4, 0, 1, 2, 3] (by decide) rfl
  exact W.fret (v := FP.fdiv (FP.i2f (nI (ctN (ltB k (Bw i)) (N i)))) (FP.i2f (nI (N i)))) hx hb hr (fun t ht hW => ⟨⟨(many, (nI 0), fb, fl, fm, fk), rfl, show (nI 0) = nI 0 ∧ MR fl fb (N) (Bw) from ⟨rfl, hMR⟩, (by rw [ht]; exact hP9), va_K.moved hW.alike hK, hD9⟩, hS.F ht⟩) hS.2.2 dX6_letterShare_62
set_option maxHeartbeats 4000000 in
set_option maxRecDepth 100000 in
theorem m_growth (l : Launch) (D : va_G) (T : Nat → ClassId) (g : Nat → Nat) (sz : Nat) (m0 : Nat) (mb : Nat) (ml : Nat) (mm : Nat) (mk : Nat) (many : Nat) (th : Int32) (fb : Nat → Int32) (fl : Nat → Int32) (fm : Nat → Int32) (fk : Nat → Int32) (N : Nat → Nat) (Bw : Nat → Nat → Nat) (hMR : MR fl fb N Bw) (i : Nat) (hi : i < 6) (k : Nat) (hk : k < 3) (hn0 : 0 < N i) : MU l yX6_growth wsX6_growth ({ frames := 60, cells := 0, slots := 0, locals := 3000 } : Room) D T g [.ref m0, .int (nI i), .int (nI k)] [(m0, .inr (3, [.ref mb, .ref ml, .ref mm, .int (nI many), .int th, .ref mk])), (mb, .inl (T 0, 1920, .inl fb)), (ml, .inl (T 0, 6, .inl fl)), (mm, .inl (T 0, 600, .inl fm)), (mk, .inl (T 0, 320, .inl fk))] sz (fun u : Nat × Int32 × (Nat → Int32) × (Nat → Int32) × (Nat → Int32) × (Nat → Int32) => some (.double (FP.ddiv (FP.i2d (nI (lnN k (N i) 1))) (FP.i2d (nI (N i)))))) (fun u : Nat × Int32 × (Nat → Int32) × (Nat → Int32) × (Nat → Int32) × (Nat → Int32) => u.2.1 = nI 0 ∧ MR u.2.2.2.1 u.2.2.1 (N) (Bw)) (fun u : Nat × Int32 × (Nat → Int32) × (Nat → Int32) × (Nat → Int32) × (Nat → Int32) => [(m0, .inr (3, [.ref mb, .ref ml, .ref mm, .int (nI u.1), .int u.2.1, .ref mk])), (mb, .inl (T 0, 1920, .inl u.2.2.1)), (ml, .inl (T 0, 6, .inl u.2.2.2.1)), (mm, .inl (T 0, 600, .inl u.2.2.2.2.1)), (mk, .inl (T 0, 320, .inl u.2.2.2.2.2))]) 0 0 := by
  refine Met.ofW (cc := cX6_growth) (maxL := 3) (ret := (some .double)) (by decide) rfl ?_
  intro p e s m args below meth c s₁ B hml hv
  obtain ⟨rfl, hsz, hP, hK, hD0, hG⟩ := hv
  have hx := B.exec
  have hb := B.bytes
  have hr := B.returns
  have hts := atoms_spec (ws := wsX6_growth) B.pre
  have hown : s.vm.findClass RX6 = some m.cls := findClass_of_methodNamed B.named
  have hlocks := B.notSynchronized
  have hi_X6 : ∀ w ∈ wsX60, w ∈ wsX6_growth := by decide +kernel
  subst hsz
  have hD := hD0.self (sz := s.heap.size)
  generalize hAe : va_A [(m0, .inr (3, [.ref mb, .ref ml, .ref mm, .int (nI many), .int th, .ref mk])), (mb, .inl (T 0, 1920, .inl fb)), (ml, .inl (T 0, 6, .inl fl)), (mm, .inl (T 0, 600, .inl fm)), (mk, .inl (T 0, 320, .inl fk))] s.heap.size = A at hD hG ⊢
  have hA : ∀ q : Nat, s.heap.size ≤ q → A q := fun q h => by rw [← hAe]; exact Or.inr h
  have hS : va_S A s.heap s.heap [] := va_S.rf
  have hP : va_P D cls [(m0, .inr (3, [.ref mb, .ref ml, .ref mm, .int (nI many), .int th, .ref mk])), (mb, .inl (T 0, 1920, .inl fb)), (ml, .inl (T 0, 6, .inl fl)), (mm, .inl (T 0, 600, .inl fm)), (mk, .inl (T 0, 320, .inl fk))] s.heap := hP
  have hl := lv_entry ([.ref m0, .int (nI i), .int (nI k)]) (n := 3) (Nat.le_of_ble_eq_true rfl)
  rw [lg_entry_eq]
  generalize (lg_sl ([.ref m0, .int (nI i), .int (nI k)]) ++ List.replicate (3 - (lg_sl ([.ref m0, .int (nI i), .int (nI k)])).length) Slot.unset).toArray = ls at hl ⊢
  have hl : lv_has ls 3 [(0, .ref m0), (1, .int (nI i)), (2, .int (nI k))] := hl
  have hrow := hMR i hi
  have hn := hrow.2.1
  have hle := lnN_le (k := k) (n := N i) (fl := 1) hn
  refine lv_aload_n hx hb dX6_growth_0 rfl (lv_at hl 0 rfl) ?_
  refine lv_aload_n hx hb dX6_growth_1 rfl (lv_at hl 0 rfl) ?_
  refine lv_iload_n hx hb dX6_growth_2 rfl (lv_at hl 1 rfl) ?_
  refine ro_V (As := [.int (nI i)]) (rest := [.ref m0]) (wc := []) (r := .int (nI 1)) ⟨hx, hb, hml, hown, hts⟩ (c_X6_isRow_y l D T g m0 i (by omega)) (cwV 1 hts gX6_growth_X6_isRow rfl rfl rfl (by decide +kernel) ⟨Nat.le_of_ble_eq_true rfl, Nat.le_of_ble_eq_true rfl⟩) (va_recv hK hP (ci := 3) (q0 := 0) rfl rfl) hP hK hG hS [] rfl ⟨Nat.zero_le _, Nat.zero_le _⟩ rfl hl.1 (Nat.le_of_ble_eq_true rfl) dX6_growth_3 rfl ?_
  refine ln_if_ne_t (tgt := 13) hx hb (by omega) (by decide) dX6_growth_6 (by decide) ?_
  refine lv_aload_n hx hb dX6_growth_13 rfl (lv_at hl 0 rfl) ?_
  refine lv_iload_n hx hb dX6_growth_14 rfl (lv_at hl 2 rfl) ?_
  refine ro_V (As := [.int (nI k)]) (rest := [.ref m0]) (wc := []) (r := .int (nI 1)) ⟨hx, hb, hml, hown, hts⟩ (c_X6_isKind_y l D T g m0 k (by omega)) (cwV 1 hts gX6_growth_X6_isKind rfl rfl rfl (by decide +kernel) ⟨Nat.le_of_ble_eq_true rfl, Nat.le_of_ble_eq_true rfl⟩) (va_recv hK hP (ci := 3) (q0 := 0) rfl rfl) hP hK hG hS [] rfl ⟨Nat.zero_le _, Nat.zero_le _⟩ rfl hl.1 (Nat.le_of_ble_eq_true rfl) dX6_growth_15 rfl ?_
  refine ln_if_ne_t (tgt := 25) hx hb (by omega) (by decide) dX6_growth_18 (by decide) ?_
  refine lv_aload_n hx hb dX6_growth_25 rfl (lv_at hl 0 rfl) ?_
  refine va_get (D := D) (ci := 3) (v := .ref ml) (C := RX6) (T := TX6) (N := 6) hx hb hts hi_X6 hown hK hP 0 rfl rfl 1 (by decide) (hts _ (List.mem_of_getElem? (i := 1) rfl)) (fun _ h9 => h9) rfl dX6_growth_26 ?_
  refine lv_iload_n hx hb dX6_growth_29 rfl (lv_at hl 1 rfl) ?_
  refine ln_iald hx hb hK hP 2 0 rfl rfl ⟨by omega, by omega⟩ dX6_growth_30 ?_
  rw [show fl i = nI (N i) from hrow.1]
  refine ln_if_ne_t (tgt := 38) hx hb (by omega) (by omega) dX6_growth_31 (by decide) ?_
  refine lv_iconst (v := (nI 0)) hx hb dX6_growth_38 (by decide +kernel) ?_
  refine mu_V (As := [.int (nI 0)]) (rest := []) (wc := [(m0, .inr (3, [.ref mb, .ref ml, .ref mm, .int (nI many), .int th, .ref mk]))]) (wr := [(mb, .inl (T 0, 1920, .inl fb)), (ml, .inl (T 0, 6, .inl fl)), (mm, .inl (T 0, 600, .inl fm)), (mk, .inl (T 0, 320, .inl fk))]) ⟨hx, hb, hml, hown, hts⟩ (c_X6_isWrong_0 l D T g s.heap.size m0 mb ml mm mk many th) (cwV 1 hts gX6_growth_X6_isWrong rfl rfl rfl (by decide +kernel) ⟨Nat.le_of_ble_eq_true rfl, Nat.le_of_ble_eq_true rfl⟩) (va_recv hK hP (ci := 3) (q0 := 0) rfl rfl) hP hD hK hG hS hA [0] [1, 2, 3, 4] rfl (by decide) rfl (by decide) (by decide) ⟨Nat.le_of_ble_eq_true rfl, Nat.le_of_ble_eq_true rfl⟩ rfl hl.1 (Nat.le_of_ble_eq_true rfl) dX6_growth_39 rfl (fun u H locs hq1 hP hD hS => ?_)
  have hP : va_P D cls [(mb, .inl (T 0, 1920, .inl fb)), (ml, .inl (T 0, 6, .inl fl)), (mm, .inl (T 0, 600, .inl fm)), (mk, .inl (T 0, 320, .inl fk)), (m0, .inr (3, [.ref mb, .ref ml, .ref mm, .int (nI many), .int (nI 0), .ref mk]))] H := hP
  have hD : va_D A [(mb, .inl (T 0, 1920, .inl fb)), (ml, .inl (T 0, 6, .inl fl)), (mm, .inl (T 0, 600, .inl fm)), (mk, .inl (T 0, 320, .inl fk)), (m0, .inr (3, [.ref mb, .ref ml, .ref mm, .int (nI many), .int (nI 0), .ref mk]))] := hD
  refine W.eq (g2 := F0 m 42 ls [.int (nI 0)]) rfl ?_
  refine ln_if_eq_t (tgt := 47) hx hb (by omega) (by decide) dX6_growth_42 (by decide) ?_
  refine lv_aload_n hx hb dX6_growth_47 rfl (lv_at hl 0 rfl) ?_
  refine lv_iload_n hx hb dX6_growth_48 rfl (lv_at hl 1 rfl) ?_
  refine lv_iload_n hx hb dX6_growth_49 rfl (lv_at hl 2 rfl) ?_
  refine lv_iconst (v := (nI 1)) hx hb dX6_growth_50 (by decide +kernel) ?_
  refine mu_V (As := [.int (nI i), .int (nI k), .int (nI 1)]) (rest := []) (wc := [(m0, .inr (3, [.ref mb, .ref ml, .ref mm, .int (nI many), .int (nI 0), .ref mk])), (ml, .inl (T 0, 6, .inl fl)), (mb, .inl (T 0, 1920, .inl fb)), (mm, .inl (T 0, 600, .inl fm))]) (wr := [(mk, .inl (T 0, 320, .inl fk))]) ⟨hx, hb, hml, hown, hts⟩ (c_X6_writes l D T g H.size m0 mb ml mm mk many (nI 0) fb fl fm i (N i) (Bw i) hi ((hMR i hi).1) ((hMR i hi).2) k hk 1 (by omega)) (cwV 3 hts gX6_growth_X6_writes rfl rfl rfl (by decide +kernel) ⟨Nat.le_of_ble_eq_true rfl, Nat.le_of_ble_eq_true rfl⟩) (va_recv hK hP (ci := 3) (q0 := 4) rfl rfl) hP hD hK hG hS hA [4, 1, 0, 2] [3] rfl (by decide) rfl (by decide) (by decide) ⟨Nat.le_of_ble_eq_true rfl, Nat.le_of_ble_eq_true rfl⟩ rfl hl.1 (Nat.le_of_ble_eq_true rfl) dX6_growth_51 rfl (fun u H locs hq3 hP hD hS => ?_)
  obtain ⟨F_2, hu9⟩ : ∃ z, z = u := ⟨_, rfl⟩
  subst hu9
  have hP : va_P D cls [(mk, .inl (T 0, 320, .inl fk)), (m0, .inr (3, [.ref mb, .ref ml, .ref mm, .int (nI (lnN k (N i) 1)), .int (nI 0), .ref mk])), (ml, .inl (T 0, 6, .inl fl)), (mb, .inl (T 0, 1920, .inl fb)), (mm, .inl (T 0, 600, .inl F_2))] H := hP
  have hD : va_D A [(mk, .inl (T 0, 320, .inl fk)), (m0, .inr (3, [.ref mb, .ref ml, .ref mm, .int (nI (lnN k (N i) 1)), .int (nI 0), .ref mk])), (ml, .inl (T 0, 6, .inl fl)), (mb, .inl (T 0, 1920, .inl fb)), (mm, .inl (T 0, 600, .inl F_2))] := hD
  have hq3 : MD F_2 (lnN k (N i) 1) (wrA k (N i) (Bw i)) := hq3
  refine W.eq (g2 := F0 m 54 ls []) rfl ?_
  refine lv_aload_n hx hb dX6_growth_54 rfl (lv_at hl 0 rfl) ?_
  refine va_get (D := D) (ci := 3) (v := .int (nI (lnN k (N i) 1))) (C := RX6) (T := TX6) (N := 6) hx hb hts hi_X6 hown hK hP 1 rfl rfl 3 (by decide) (hts _ (List.mem_of_getElem? (i := 2) rfl)) (fun _ h9 => h9) rfl dX6_growth_55 ?_
  refine lv_i2d hx hb dX6_growth_58 ?_
  refine lv_aload_n hx hb dX6_growth_59 rfl (lv_at hl 0 rfl) ?_
  refine va_get (D := D) (ci := 3) (v := .ref ml) (C := RX6) (T := TX6) (N := 6) hx hb hts hi_X6 hown hK hP 1 rfl rfl 1 (by decide) (hts _ (List.mem_of_getElem? (i := 1) rfl)) (fun _ h9 => h9) rfl dX6_growth_60 ?_
  refine lv_iload_n hx hb dX6_growth_63 rfl (lv_at hl 1 rfl) ?_
  refine ln_iald hx hb hK hP 2 0 rfl rfl ⟨by omega, by omega⟩ dX6_growth_64 ?_
  rw [show fl i = nI (N i) from hrow.1]
  refine lv_i2d hx hb dX6_growth_65 ?_
  refine lv_ddiv hx hb dX6_growth_66 (grD_n (by omega) (by omega) hn0) ?_
  have hP9 := hP.sub (ws' := [(m0, .inr (3, [.ref mb, .ref ml, .ref mm, .int (nI (lnN k (N i) 1)), .int (nI 0), .ref mk])), (mb, .inl (T 0, 1920, .inl fb)), (ml, .inl (T 0, 6, .inl fl)), (mm, .inl (T 0, 600, .inl F_2)), (mk, .inl (T 0, 320, .inl fk))]) [1, 3, 2, 4, 0] rfl
  have hD9 := hD.sub (ws' := [(m0, .inr (3, [.ref mb, .ref ml, .ref mm, .int (nI (lnN k (N i) 1)), .int (nI 0), .ref mk])), (mb, .inl (T 0, 1920, .inl fb)), (ml, .inl (T 0, 6, .inl fl)), (mm, .inl (T 0, 600, .inl F_2)), (mk, .inl (T 0, 320, .inl fk))]) [1, 3, 2, 4, 0] (by decide) rfl
  exact W.dret (v := FP.ddiv (FP.i2d (nI (lnN k (N i) 1))) (FP.i2d (nI (N i)))) hx hb hr (fun t ht hW => ⟨⟨(lnN k (N i) 1, (nI 0), fb, fl, F_2, fk), rfl, show (nI 0) = nI 0 ∧ MR fl fb (N) (Bw) from ⟨rfl, hMR⟩, (by rw [ht]; exact hP9), va_K.moved hW.alike hK, hD9⟩, hS.F ht⟩) hS.2.2 dX6_growth_67
set_option maxHeartbeats 4000000 in
set_option maxRecDepth 100000 in
/-- the sum -/
theorem m_checksum (l : Launch) (D : va_G) (T : Nat → ClassId) (g : Nat → Nat) (sz : Nat) (m0 : Nat) (mb : Nat) (ml : Nat) (mm : Nat) (mk : Nat) (many : Nat) (th : Int32) (fb : Nat → Int32) (fl : Nat → Int32) (fm : Nat → Int32) (fk : Nat → Int32) (N : Nat → Nat) (Bw : Nat → Nat → Nat) (hMR : MR fl fb N Bw) : MU l yX6_checksum wsX6_checksum ({ frames := 60, cells := 0, slots := 0, locals := 3000 } : Room) D T g [.ref m0] [(m0, .inr (3, [.ref mb, .ref ml, .ref mm, .int (nI many), .int th, .ref mk])), (mb, .inl (T 0, 1920, .inl fb)), (ml, .inl (T 0, 6, .inl fl)), (mm, .inl (T 0, 600, .inl fm)), (mk, .inl (T 0, 320, .inl fk))] sz (fun u : Nat × Int32 × (Nat → Int32) × (Nat → Int32) × (Nat → Int32) × (Nat → Int32) => some (.long (csN N Bw 6))) (fun u : Nat × Int32 × (Nat → Int32) × (Nat → Int32) × (Nat → Int32) × (Nat → Int32) => u.2.1 = nI 0 ∧ MR u.2.2.2.1 u.2.2.1 (N) (Bw)) (fun u : Nat × Int32 × (Nat → Int32) × (Nat → Int32) × (Nat → Int32) × (Nat → Int32) => [(m0, .inr (3, [.ref mb, .ref ml, .ref mm, .int (nI u.1), .int u.2.1, .ref mk])), (mb, .inl (T 0, 1920, .inl u.2.2.1)), (ml, .inl (T 0, 6, .inl u.2.2.2.1)), (mm, .inl (T 0, 600, .inl u.2.2.2.2.1)), (mk, .inl (T 0, 320, .inl u.2.2.2.2.2))]) 0 0 := by
  refine Met.ofW (cc := cX6_checksum) (maxL := 5) (ret := (some .long)) (by decide) rfl ?_
  intro p e s m args below meth c s₁ B hml hv
  obtain ⟨rfl, hsz, hP, hK, hD0, hG⟩ := hv
  have hx := B.exec
  have hb := B.bytes
  have hr := B.returns
  have hts := atoms_spec (ws := wsX6_checksum) B.pre
  have hown : s.vm.findClass RX6 = some m.cls := findClass_of_methodNamed B.named
  have hlocks := B.notSynchronized
  have hi_X6 : ∀ w ∈ wsX60, w ∈ wsX6_checksum := by decide +kernel
  subst hsz
  have hD := hD0.self (sz := s.heap.size)
  generalize hAe : va_A [(m0, .inr (3, [.ref mb, .ref ml, .ref mm, .int (nI many), .int th, .ref mk])), (mb, .inl (T 0, 1920, .inl fb)), (ml, .inl (T 0, 6, .inl fl)), (mm, .inl (T 0, 600, .inl fm)), (mk, .inl (T 0, 320, .inl fk))] s.heap.size = A at hD hG ⊢
  have hA : ∀ q : Nat, s.heap.size ≤ q → A q := fun q h => by rw [← hAe]; exact Or.inr h
  have hS : va_S A s.heap s.heap [] := va_S.rf
  have hP : va_P D cls [(m0, .inr (3, [.ref mb, .ref ml, .ref mm, .int (nI many), .int th, .ref mk])), (mb, .inl (T 0, 1920, .inl fb)), (ml, .inl (T 0, 6, .inl fl)), (mm, .inl (T 0, 600, .inl fm)), (mk, .inl (T 0, 320, .inl fk))] s.heap := hP
  have hl := lv_entry ([.ref m0]) (n := 5) (Nat.le_of_ble_eq_true rfl)
  rw [lg_entry_eq]
  generalize (lg_sl ([.ref m0]) ++ List.replicate (5 - (lg_sl ([.ref m0])).length) Slot.unset).toArray = ls at hl ⊢
  have hl : lv_has ls 5 [(0, .ref m0)] := hl
  refine lv_aload_n hx hb dX6_checksum_0 rfl (lv_at hl 0 rfl) ?_
  refine lv_iconst (v := (nI 0)) hx hb dX6_checksum_1 (by decide +kernel) ?_
  refine va_put (D := D) (ci := 3) (v := .int (nI 0)) (ty := .int) (C := RX6) (T := TX6) (N := 6) hx hb hts hi_X6 tyX6 tyX6_ok nmX6 hown hK hP hD hS 0 rfl rfl 4 (by decide) (hts _ (List.mem_of_getElem? (i := 1) rfl)) (fun _ h9 => h9) rfl (by decide +kernel) rfl rfl (Nat.le_of_ble_eq_true rfl) dX6_checksum_2 (fun H locs hP hD hS => ?_)
  have hP : va_P D cls [(m0, .inr (3, [.ref mb, .ref ml, .ref mm, .int (nI many), .int (nI 0), .ref mk])), (mb, .inl (T 0, 1920, .inl fb)), (ml, .inl (T 0, 6, .inl fl)), (mm, .inl (T 0, 600, .inl fm)), (mk, .inl (T 0, 320, .inl fk))] H := hP
  have hD : va_D A [(m0, .inr (3, [.ref mb, .ref ml, .ref mm, .int (nI many), .int (nI 0), .ref mk])), (mb, .inl (T 0, 1920, .inl fb)), (ml, .inl (T 0, 6, .inl fl)), (mm, .inl (T 0, 600, .inl fm)), (mk, .inl (T 0, 320, .inl fk))] := hD
  refine lv_ldc2 hx hb hown (hts _ (List.mem_of_getElem? (i := 2) rfl)) dX6_checksum_5 ?_
  refine lv_lstore_n (lv' := [(1, .long (lN 7)), (0, .ref m0)]) hx hb dX6_checksum_8 rfl hl (by decide) rfl (fun ls hl => ?_)
  refine lv_iconst (v := (nI 0)) hx hb dX6_checksum_9 (by decide +kernel) ?_
  refine lv_istore_n (lv' := [(3, .int (nI 0)), (1, .long (lN 7)), (0, .ref m0)]) hx hb dX6_checksum_10 rfl hl (by decide) rfl (fun ls hl => ?_)
  have K1 : ∀ (N9 : Nat) (t : Nat), (t ≤ 6) → 6 - t < N9 → ∀ ls : Array Slot, lv_has ls 5 [(0, .ref m0), (1, .long (csN N Bw t)), (3, .int (nI t))] → W p l e (headSpec wsX6_checksum ({ frames := 60, cells := 0, slots := 0, locals := 3000 } : Room)).room s m ([.ref m0] : List Value).toArray below meth c H locs 0 0 (MQ below (QM D T A (fun u : Nat × Int32 × (Nat → Int32) × (Nat → Int32) × (Nat → Int32) × (Nat → Int32) => some (.long (csN N Bw 6))) (fun u : Nat × Int32 × (Nat → Int32) × (Nat → Int32) × (Nat → Int32) × (Nat → Int32) => u.2.1 = nI 0 ∧ MR u.2.2.2.1 u.2.2.1 (N) (Bw)) (fun u : Nat × Int32 × (Nat → Int32) × (Nat → Int32) × (Nat → Int32) × (Nat → Int32) => [(m0, .inr (3, [.ref mb, .ref ml, .ref mm, .int (nI u.1), .int u.2.1, .ref mk])), (mb, .inl (T 0, 1920, .inl u.2.2.1)), (ml, .inl (T 0, 6, .inl u.2.2.2.1)), (mm, .inl (T 0, 600, .inl u.2.2.2.2.1)), (mk, .inl (T 0, 320, .inl u.2.2.2.2.2))])) ([.ref m0] : List Value).toArray s 0 0 A) (F0 m 11 ls []) := by
    intro N9
    induction N9 with
    | zero => intro t ht6 h9; exact absurd h9 (Nat.not_lt_zero _)
    | succ N9 ih_11 =>
      intro t ht6 h9 ls hl
      refine lv_iload_n hx hb dX6_checksum_11 rfl (lv_at hl 2 rfl) ?_
      refine lv_bipush (v := (nI 6)) hx hb dX6_checksum_12 (by decide +kernel) ?_
      refine ln_icmp_ge (tgt := 72) hx hb ⟨by omega, by omega⟩ dX6_checksum_14 (by decide) (fun c_14 => ?_) (fun c_14 => ?_)
      · have e9 : t = 6 := by omega
        subst e9
        refine lv_lload_n hx hb dX6_checksum_72 rfl (lv_at hl 1 rfl) ?_
        have hP9 := hP.sub (ws' := [(m0, .inr (3, [.ref mb, .ref ml, .ref mm, .int (nI many), .int (nI 0), .ref mk])), (mb, .inl (T 0, 1920, .inl fb)), (ml, .inl (T 0, 6, .inl fl)), (mm, .inl (T 0, 600, .inl fm)), (mk, .inl (T 0, 320, .inl fk))]) [0, 1, 2, 3, 4] rfl
        have hD9 := hD.sub (ws' := [(m0, .inr (3, [.ref mb, .ref ml, .ref mm, .int (nI many), .int (nI 0), .ref mk])), (mb, .inl (T 0, 1920, .inl fb)), (ml, .inl (T 0, 6, .inl fl)), (mm, .inl (T 0, 600, .inl fm)), (mk, .inl (T 0, 320, .inl fk))]) [0, 1, 2, 3, 4] (by decide) rfl
        exact W.lret (v := csN N Bw 6) hx hb hr (fun t ht hW => ⟨⟨(many, (nI 0), fb, fl, fm, fk), rfl, show (nI 0) = nI 0 ∧ MR fl fb (N) (Bw) from ⟨rfl, hMR⟩, (by rw [ht]; exact hP9), va_K.moved hW.alike hK, hD9⟩, hS.F ht⟩) hS.2.2 dX6_checksum_73
      · refine lv_ldc2 hx hb hown (hts _ (List.mem_of_getElem? (i := 3) rfl)) dX6_checksum_17 ?_
        refine lv_lload_n hx hb dX6_checksum_20 rfl (lv_at hl 1 rfl) ?_
        refine lv_lmul hx hb dX6_checksum_21 ?_
        have hn := (hMR t (by omega)).2.1
        refine lv_aload_n hx hb dX6_checksum_22 rfl (lv_at hl 0 rfl) ?_
        refine va_get (D := D) (ci := 3) (v := .ref ml) (C := RX6) (T := TX6) (N := 6) hx hb hts hi_X6 hown hK hP 0 rfl rfl 1 (by decide) (hts _ (List.mem_of_getElem? (i := 4) rfl)) (fun _ h9 => h9) rfl dX6_checksum_23 ?_
        refine lv_iload_n hx hb dX6_checksum_26 rfl (lv_at hl 2 rfl) ?_
        refine ln_iald hx hb hK hP 2 0 rfl rfl ⟨by omega, by omega⟩ dX6_checksum_27 ?_
        rw [show fl t = nI (N t) from (hMR t (by omega)).1]
        refine lv_i2l hx hb dX6_checksum_28 (v := lN (N t)) (nI_l (by omega)) ?_
        refine lv_ladd hx hb dX6_checksum_29 ?_
        refine lv_lstore_n (lv' := [(1, .long ((31 * (csN N Bw t)) + (lN (N t)))), (0, .ref m0), (3, .int (nI t))]) hx hb dX6_checksum_30 rfl hl (by decide) rfl (fun ls hl => ?_)
        refine lv_iconst (v := (nI 0)) hx hb dX6_checksum_31 (by decide +kernel) ?_
        refine lv_istore (lv' := [(4, .int (nI 0)), (1, .long ((31 * (csN N Bw t)) + (lN (N t)))), (0, .ref m0), (3, .int (nI t))]) hx hb dX6_checksum_32 hl (by decide) rfl (fun ls hl => ?_)
        have K2 : ∀ (N9 : Nat) (d : Nat), (d ≤ N t) → N t - d < N9 → ∀ ls : Array Slot, lv_has ls 5 [(0, .ref m0), (1, .long (adF (Bw t) d (31 * csN N Bw t + lN (N t)))), (3, .int (nI t)), (4, .int (nI d))] → W p l e (headSpec wsX6_checksum ({ frames := 60, cells := 0, slots := 0, locals := 3000 } : Room)).room s m ([.ref m0] : List Value).toArray below meth c H locs 0 0 (MQ below (QM D T A (fun u : Nat × Int32 × (Nat → Int32) × (Nat → Int32) × (Nat → Int32) × (Nat → Int32) => some (.long (csN N Bw 6))) (fun u : Nat × Int32 × (Nat → Int32) × (Nat → Int32) × (Nat → Int32) × (Nat → Int32) => u.2.1 = nI 0 ∧ MR u.2.2.2.1 u.2.2.1 (N) (Bw)) (fun u : Nat × Int32 × (Nat → Int32) × (Nat → Int32) × (Nat → Int32) × (Nat → Int32) => [(m0, .inr (3, [.ref mb, .ref ml, .ref mm, .int (nI u.1), .int u.2.1, .ref mk])), (mb, .inl (T 0, 1920, .inl u.2.2.1)), (ml, .inl (T 0, 6, .inl u.2.2.2.1)), (mm, .inl (T 0, 600, .inl u.2.2.2.2.1)), (mk, .inl (T 0, 320, .inl u.2.2.2.2.2))])) ([.ref m0] : List Value).toArray s 0 0 A) (F0 m 34 ls []) := by
          intro N9
          induction N9 with
          | zero => intro d hd h9; exact absurd h9 (Nat.not_lt_zero _)
          | succ N9 ih_34 =>
            intro d hd h9 ls hl
            refine lv_iload hx hb dX6_checksum_34 (lv_at hl 3 rfl) ?_
            refine lv_aload_n hx hb dX6_checksum_36 rfl (lv_at hl 0 rfl) ?_
            refine va_get (D := D) (ci := 3) (v := .ref ml) (C := RX6) (T := TX6) (N := 6) hx hb hts hi_X6 hown hK hP 0 rfl rfl 1 (by decide) (hts _ (List.mem_of_getElem? (i := 4) rfl)) (fun _ h9 => h9) rfl dX6_checksum_37 ?_
            refine lv_iload_n hx hb dX6_checksum_40 rfl (lv_at hl 2 rfl) ?_
            refine ln_iald hx hb hK hP 2 0 rfl rfl ⟨by omega, by omega⟩ dX6_checksum_41 ?_
            rw [show fl t = nI (N t) from (hMR t (by omega)).1]
            refine ln_icmp_ge (tgt := 66) hx hb ⟨by omega, by omega⟩ dX6_checksum_42 (by decide) (fun c_42 => ?_) (fun c_42 => ?_)
            · have hl : lv_has ls 5 [(0, .ref m0), (1, .long (adF (Bw t) d (31 * csN N Bw t + lN (N t)))), (3, .int (nI t))] := lv_sub hl [0, 1, 2] rfl
              have e9 : d = N t := by omega
              rw [e9] at hl
              have hl : lv_has ls 5 [(0, .ref m0), (1, .long (csN N Bw (t + 1))), (3, .int (nI t))] := hl
              refine lv_iinc (v := (nI (t + 1))) (lv' := [(3, .int (nI (t + 1))), (0, .ref m0), (1, .long (csN N Bw (t + 1)))]) hx hb dX6_checksum_66 hl (k := 2) rfl (ni_inc1 _) (by decide) rfl (fun ls hl => ?_)
              refine lv_goto (tgt := 11) hx hb dX6_checksum_69 (by decide) ?_
              exact ih_11 (t + 1) (by omega) (by omega) ls (lv_sub hl [1, 2, 0] rfl)
            · refine lv_ldc2 hx hb hown (hts _ (List.mem_of_getElem? (i := 3) rfl)) dX6_checksum_45 ?_
              refine lv_lload_n hx hb dX6_checksum_48 rfl (lv_at hl 1 rfl) ?_
              refine lv_lmul hx hb dX6_checksum_49 ?_
              refine lv_aload_n hx hb dX6_checksum_50 rfl (lv_at hl 0 rfl) ?_
              refine lv_iload_n hx hb dX6_checksum_51 rfl (lv_at hl 2 rfl) ?_
              refine lv_iload hx hb dX6_checksum_52 (lv_at hl 3 rfl) ?_
              refine ro_V (As := [.int (nI t), .int (nI d)]) (rest := [.long (31 * (adF (Bw t) d (31 * csN N Bw t + lN (N t))))]) (wc := [(m0, .inr (3, [.ref mb, .ref ml, .ref mm, .int (nI many), .int (nI 0), .ref mk])), (mb, .inl (T 0, 1920, .inl fb))]) (r := .int (nI ((Bw t) d))) ⟨hx, hb, hml, hown, hts⟩ (c_X6_atB l D T g m0 mb ml mm mk many (nI 0) fb t d (N t) (Bw t) (by omega) ((hMR t (by omega)).2) (by omega)) (cwV 2 hts gX6_checksum_X6_at rfl rfl rfl (by decide +kernel) ⟨Nat.le_of_ble_eq_true rfl, Nat.le_of_ble_eq_true rfl⟩) (va_recv hK hP (ci := 3) (q0 := 0) rfl rfl) hP hK hG hS [0, 1] rfl ⟨Nat.zero_le _, Nat.zero_le _⟩ rfl hl.1 (Nat.le_of_ble_eq_true rfl) dX6_checksum_54 rfl ?_
              have hb8 := ((hMR t (by omega)).2.2 d (by omega)).2
              refine lv_i2l hx hb dX6_checksum_57 (v := lN ((Bw t) d)) (nI_l (by omega)) ?_
              refine lv_ladd hx hb dX6_checksum_58 ?_
              refine lv_lstore_n (lv' := [(1, .long ((31 * (adF (Bw t) d (31 * csN N Bw t + lN (N t)))) + (lN ((Bw t) d)))), (0, .ref m0), (3, .int (nI t)), (4, .int (nI d))]) hx hb dX6_checksum_59 rfl hl (by decide) rfl (fun ls hl => ?_)
              refine lv_iinc (v := (nI (d + 1))) (lv' := [(4, .int (nI (d + 1))), (1, .long ((31 * (adF (Bw t) d (31 * csN N Bw t + lN (N t)))) + (lN ((Bw t) d)))), (0, .ref m0), (3, .int (nI t))]) hx hb dX6_checksum_60 hl (k := 3) rfl (ni_inc1 _) (by decide) rfl (fun ls hl => ?_)
              refine lv_goto (tgt := 34) hx hb dX6_checksum_63 (by decide) ?_
              exact ih_34 (d + 1) (by omega) (by omega) ls (lv_sub hl [2, 1, 3, 0] rfl)
        exact K2 _ 0 (by omega) (Nat.lt_succ_self _) ls (lv_sub hl [2, 1, 3, 0] rfl)
  exact K1 _ 0 (by omega) (Nat.lt_succ_self _) ls (lv_sub hl [2, 1, 0] rfl)
theorem tr_len (n : Nat) : (8 * n + 5) / 6 = sgN n 0 := by rw [sg_0]; split <;> omega
theorem tr_ln {k n : Nat} (hk : k < 3) : lnN k n 0 = sgN n 0 + 2 * (if sgN n 0 = 0 ∨ k < 2 then 0 else (sgN n 0 - 1) / 76) := by
  rw [lnN_S]; unfold lnS
  by_cases e : k = 2
  · by_cases e2 : sgN n 0 = 0
    · rw [if_neg (fun z => z.2 e2), if_pos (Or.inl e2)]; rfl
    · rw [if_pos ⟨e, e2⟩, if_neg (by omega)]; omega
  · rw [if_neg (fun z => e z.1), if_pos (Or.inr (by omega))]; rfl
set_option maxHeartbeats 4000000 in
set_option maxRecDepth 100000 in
/-- the theorem -/
theorem m_isTrue (l : Launch) (D : va_G) (T : Nat → ClassId) (g : Nat → Nat) (sz : Nat) (m0 : Nat) (mb : Nat) (ml : Nat) (mm : Nat) (mk : Nat) (many : Nat) (th : Int32) (fb : Nat → Int32) (fl : Nat → Int32) (fm : Nat → Int32) (fk : Nat → Int32) (N : Nat → Nat) (Bw : Nat → Nat → Nat) (hMR : MR fl fb N Bw) : MU l yX6_isTrue wsX6_isTrue ({ frames := 60, cells := 0, slots := 0, locals := 3000 } : Room) D T g [.ref m0] [(m0, .inr (3, [.ref mb, .ref ml, .ref mm, .int (nI many), .int th, .ref mk])), (mb, .inl (T 0, 1920, .inl fb)), (ml, .inl (T 0, 6, .inl fl)), (mm, .inl (T 0, 600, .inl fm)), (mk, .inl (T 0, 320, .inl fk))] sz (fun u : Nat × Int32 × (Nat → Int32) × (Nat → Int32) × (Nat → Int32) × (Nat → Int32) => some (.int (nI 1))) (fun u : Nat × Int32 × (Nat → Int32) × (Nat → Int32) × (Nat → Int32) × (Nat → Int32) => u.2.1 = nI 0 ∧ MR u.2.2.2.1 u.2.2.1 (N) (Bw)) (fun u : Nat × Int32 × (Nat → Int32) × (Nat → Int32) × (Nat → Int32) × (Nat → Int32) => [(m0, .inr (3, [.ref mb, .ref ml, .ref mm, .int (nI u.1), .int u.2.1, .ref mk])), (mb, .inl (T 0, 1920, .inl u.2.2.1)), (ml, .inl (T 0, 6, .inl u.2.2.2.1)), (mm, .inl (T 0, 600, .inl u.2.2.2.2.1)), (mk, .inl (T 0, 320, .inl u.2.2.2.2.2))]) 0 0 := by
  refine Met.ofW (cc := cX6_isTrue) (maxL := 6) (ret := (some .boolean)) (by decide) rfl ?_
  intro p e s m args below meth c s₁ B hml hv
  obtain ⟨rfl, hsz, hP, hK, hD0, hG⟩ := hv
  have hx := B.exec
  have hb := B.bytes
  have hr := B.returns
  have hts := atoms_spec (ws := wsX6_isTrue) B.pre
  have hown : s.vm.findClass RX6 = some m.cls := findClass_of_methodNamed B.named
  have hlocks := B.notSynchronized
  have hi_X6 : ∀ w ∈ wsX60, w ∈ wsX6_isTrue := by decide +kernel
  subst hsz
  have hD := hD0.self (sz := s.heap.size)
  generalize hAe : va_A [(m0, .inr (3, [.ref mb, .ref ml, .ref mm, .int (nI many), .int th, .ref mk])), (mb, .inl (T 0, 1920, .inl fb)), (ml, .inl (T 0, 6, .inl fl)), (mm, .inl (T 0, 600, .inl fm)), (mk, .inl (T 0, 320, .inl fk))] s.heap.size = A at hD hG ⊢
  have hA : ∀ q : Nat, s.heap.size ≤ q → A q := fun q h => by rw [← hAe]; exact Or.inr h
  have hS : va_S A s.heap s.heap [] := va_S.rf
  have hP : va_P D cls [(m0, .inr (3, [.ref mb, .ref ml, .ref mm, .int (nI many), .int th, .ref mk])), (mb, .inl (T 0, 1920, .inl fb)), (ml, .inl (T 0, 6, .inl fl)), (mm, .inl (T 0, 600, .inl fm)), (mk, .inl (T 0, 320, .inl fk))] s.heap := hP
  have hl := lv_entry ([.ref m0]) (n := 6) (Nat.le_of_ble_eq_true rfl)
  rw [lg_entry_eq]
  generalize (lg_sl ([.ref m0]) ++ List.replicate (6 - (lg_sl ([.ref m0])).length) Slot.unset).toArray = ls at hl ⊢
  have hl : lv_has ls 6 [(0, .ref m0)] := hl
  refine lv_aload_n hx hb dX6_isTrue_0 rfl (lv_at hl 0 rfl) ?_
  refine lv_iconst (v := (nI 0)) hx hb dX6_isTrue_1 (by decide +kernel) ?_
  refine va_put (D := D) (ci := 3) (v := .int (nI 0)) (ty := .int) (C := RX6) (T := TX6) (N := 6) hx hb hts hi_X6 tyX6 tyX6_ok nmX6 hown hK hP hD hS 0 rfl rfl 4 (by decide) (hts _ (List.mem_of_getElem? (i := 1) rfl)) (fun _ h9 => h9) rfl (by decide +kernel) rfl rfl (Nat.le_of_ble_eq_true rfl) dX6_isTrue_2 (fun H locs hP hD hS => ?_)
  have hP : va_P D cls [(m0, .inr (3, [.ref mb, .ref ml, .ref mm, .int (nI many), .int (nI 0), .ref mk])), (mb, .inl (T 0, 1920, .inl fb)), (ml, .inl (T 0, 6, .inl fl)), (mm, .inl (T 0, 600, .inl fm)), (mk, .inl (T 0, 320, .inl fk))] H := hP
  have hD : va_D A [(m0, .inr (3, [.ref mb, .ref ml, .ref mm, .int (nI many), .int (nI 0), .ref mk])), (mb, .inl (T 0, 1920, .inl fb)), (ml, .inl (T 0, 6, .inl fl)), (mm, .inl (T 0, 600, .inl fm)), (mk, .inl (T 0, 320, .inl fk))] := hD
  refine lv_iconst (v := (nI 1)) hx hb dX6_isTrue_5 (by decide +kernel) ?_
  refine lv_istore_n (lv' := [(1, .int (nI 1)), (0, .ref m0)]) hx hb dX6_isTrue_6 rfl hl (by decide) rfl (fun ls hl => ?_)
  refine lv_iconst (v := (nI 0)) hx hb dX6_isTrue_7 (by decide +kernel) ?_
  refine lv_istore_n (lv' := [(2, .int (nI 0)), (1, .int (nI 1)), (0, .ref m0)]) hx hb dX6_isTrue_8 rfl hl (by decide) rfl (fun ls hl => ?_)
  have K1 : ∀ (N9 : Nat) (t : Nat) (mv : Nat) (F : Nat → Int32), (t ≤ 6) → 6 - t < N9 → ∀ (H : Heap) (locs : List Loc), va_P D cls [(m0, .inr (3, [.ref mb, .ref ml, .ref mm, .int (nI mv), .int (nI 0), .ref mk])), (mb, .inl (T 0, 1920, .inl fb)), (ml, .inl (T 0, 6, .inl fl)), (mm, .inl (T 0, 600, .inl F)), (mk, .inl (T 0, 320, .inl fk))] H → va_D A [(m0, .inr (3, [.ref mb, .ref ml, .ref mm, .int (nI mv), .int (nI 0), .ref mk])), (mb, .inl (T 0, 1920, .inl fb)), (ml, .inl (T 0, 6, .inl fl)), (mm, .inl (T 0, 600, .inl F)), (mk, .inl (T 0, 320, .inl fk))] → va_S A s.heap H locs → ∀ ls : Array Slot, lv_has ls 6 [(0, .ref m0), (1, .int (nI 1)), (2, .int (nI t))] → W p l e (headSpec wsX6_isTrue ({ frames := 60, cells := 0, slots := 0, locals := 3000 } : Room)).room s m ([.ref m0] : List Value).toArray below meth c H locs 0 0 (MQ below (QM D T A (fun u : Nat × Int32 × (Nat → Int32) × (Nat → Int32) × (Nat → Int32) × (Nat → Int32) => some (.int (nI 1))) (fun u : Nat × Int32 × (Nat → Int32) × (Nat → Int32) × (Nat → Int32) × (Nat → Int32) => u.2.1 = nI 0 ∧ MR u.2.2.2.1 u.2.2.1 (N) (Bw)) (fun u : Nat × Int32 × (Nat → Int32) × (Nat → Int32) × (Nat → Int32) × (Nat → Int32) => [(m0, .inr (3, [.ref mb, .ref ml, .ref mm, .int (nI u.1), .int u.2.1, .ref mk])), (mb, .inl (T 0, 1920, .inl u.2.2.1)), (ml, .inl (T 0, 6, .inl u.2.2.2.1)), (mm, .inl (T 0, 600, .inl u.2.2.2.2.1)), (mk, .inl (T 0, 320, .inl u.2.2.2.2.2))])) ([.ref m0] : List Value).toArray s 0 0 A) (F0 m 9 ls []) := by
    intro N9
    induction N9 with
    | zero => intro t mv F ht6 h9; exact absurd h9 (Nat.not_lt_zero _)
    | succ N9 ih_9 =>
      intro t mv F ht6 h9 H locs hP hD hS ls hl
      refine lv_iload_n hx hb dX6_isTrue_9 rfl (lv_at hl 2 rfl) ?_
      refine lv_bipush (v := (nI 6)) hx hb dX6_isTrue_10 (by decide +kernel) ?_
      refine ln_icmp_ge (tgt := 102) hx hb ⟨by omega, by omega⟩ dX6_isTrue_12 (by decide) (fun c_12 => ?_) (fun c_12 => ?_)
      · refine lv_iload_n hx hb dX6_isTrue_102 rfl (lv_at hl 1 rfl) ?_
        have hP9 := hP.sub (ws' := [(m0, .inr (3, [.ref mb, .ref ml, .ref mm, .int (nI mv), .int (nI 0), .ref mk])), (mb, .inl (T 0, 1920, .inl fb)), (ml, .inl (T 0, 6, .inl fl)), (mm, .inl (T 0, 600, .inl F)), (mk, .inl (T 0, 320, .inl fk))]) [0, 1, 2, 3, 4] rfl
        have hD9 := hD.sub (ws' := [(m0, .inr (3, [.ref mb, .ref ml, .ref mm, .int (nI mv), .int (nI 0), .ref mk])), (mb, .inl (T 0, 1920, .inl fb)), (ml, .inl (T 0, 6, .inl fl)), (mm, .inl (T 0, 600, .inl F)), (mk, .inl (T 0, 320, .inl fk))]) [0, 1, 2, 3, 4] (by decide) rfl
        exact W.zret (v := (nI 1)) (ty := .boolean) hx hb hr (rfl) (fun t ht hW => ⟨⟨(mv, (nI 0), fb, fl, F, fk), rfl, show (nI 0) = nI 0 ∧ MR fl fb (N) (Bw) from ⟨rfl, hMR⟩, (by rw [ht]; exact hP9), va_K.moved hW.alike hK, hD9⟩, hS.F ht⟩) hS.2.2 dX6_isTrue_103
      · refine lv_iconst (v := (nI 0)) hx hb dX6_isTrue_15 (by decide +kernel) ?_
        refine lv_istore_n (lv' := [(3, .int (nI 0)), (0, .ref m0), (1, .int (nI 1)), (2, .int (nI t))]) hx hb dX6_isTrue_16 rfl hl (by decide) rfl (fun ls hl => ?_)
        have K2 : ∀ (N9 : Nat) (kk : Nat) (mv : Nat) (F : Nat → Int32), (kk ≤ 3) → 3 - kk < N9 → ∀ (H : Heap) (locs : List Loc), va_P D cls [(m0, .inr (3, [.ref mb, .ref ml, .ref mm, .int (nI mv), .int (nI 0), .ref mk])), (mb, .inl (T 0, 1920, .inl fb)), (ml, .inl (T 0, 6, .inl fl)), (mm, .inl (T 0, 600, .inl F)), (mk, .inl (T 0, 320, .inl fk))] H → va_D A [(m0, .inr (3, [.ref mb, .ref ml, .ref mm, .int (nI mv), .int (nI 0), .ref mk])), (mb, .inl (T 0, 1920, .inl fb)), (ml, .inl (T 0, 6, .inl fl)), (mm, .inl (T 0, 600, .inl F)), (mk, .inl (T 0, 320, .inl fk))] → va_S A s.heap H locs → ∀ ls : Array Slot, lv_has ls 6 [(0, .ref m0), (1, .int (nI 1)), (2, .int (nI t)), (3, .int (nI kk))] → W p l e (headSpec wsX6_isTrue ({ frames := 60, cells := 0, slots := 0, locals := 3000 } : Room)).room s m ([.ref m0] : List Value).toArray below meth c H locs 0 0 (MQ below (QM D T A (fun u : Nat × Int32 × (Nat → Int32) × (Nat → Int32) × (Nat → Int32) × (Nat → Int32) => some (.int (nI 1))) (fun u : Nat × Int32 × (Nat → Int32) × (Nat → Int32) × (Nat → Int32) × (Nat → Int32) => u.2.1 = nI 0 ∧ MR u.2.2.2.1 u.2.2.1 (N) (Bw)) (fun u : Nat × Int32 × (Nat → Int32) × (Nat → Int32) × (Nat → Int32) × (Nat → Int32) => [(m0, .inr (3, [.ref mb, .ref ml, .ref mm, .int (nI u.1), .int u.2.1, .ref mk])), (mb, .inl (T 0, 1920, .inl u.2.2.1)), (ml, .inl (T 0, 6, .inl u.2.2.2.1)), (mm, .inl (T 0, 600, .inl u.2.2.2.2.1)), (mk, .inl (T 0, 320, .inl u.2.2.2.2.2))])) ([.ref m0] : List Value).toArray s 0 0 A) (F0 m 17 ls []) := by
          intro N9
          induction N9 with
          | zero => intro kk mv F hkk h9; exact absurd h9 (Nat.not_lt_zero _)
          | succ N9 ih_17 =>
            intro kk mv F hkk h9 H locs hP hD hS ls hl
            refine lv_iload_n hx hb dX6_isTrue_17 rfl (lv_at hl 3 rfl) ?_
            refine lv_iconst (v := (nI 3)) hx hb dX6_isTrue_18 (by decide +kernel) ?_
            refine ln_icmp_ge (tgt := 96) hx hb ⟨by omega, by omega⟩ dX6_isTrue_19 (by decide) (fun c_19 => ?_) (fun c_19 => ?_)
            · refine lv_iinc (v := (nI (t + 1))) (lv' := [(2, .int (nI (t + 1))), (0, .ref m0), (1, .int (nI 1)), (3, .int (nI kk))]) hx hb dX6_isTrue_96 hl (k := 2) rfl (ni_inc1 _) (by decide) rfl (fun ls hl => ?_)
              refine lv_goto (tgt := 9) hx hb dX6_isTrue_99 (by decide) ?_
              exact ih_9 (t + 1) mv F (by omega) (by omega) _ _ (hP.sub (ws' := [(m0, .inr (3, [.ref mb, .ref ml, .ref mm, .int (nI mv), .int (nI 0), .ref mk])), (mb, .inl (T 0, 1920, .inl fb)), (ml, .inl (T 0, 6, .inl fl)), (mm, .inl (T 0, 600, .inl F)), (mk, .inl (T 0, 320, .inl fk))]) [0, 1, 2, 3, 4] rfl) (hD.sub (ws' := [(m0, .inr (3, [.ref mb, .ref ml, .ref mm, .int (nI mv), .int (nI 0), .ref mk])), (mb, .inl (T 0, 1920, .inl fb)), (ml, .inl (T 0, 6, .inl fl)), (mm, .inl (T 0, 600, .inl F)), (mk, .inl (T 0, 320, .inl fk))]) [0, 1, 2, 3, 4] (by decide) rfl) hS ls (lv_sub hl [1, 2, 0] rfl)
            · have hn := (hMR t (by omega)).2.1
              refine lv_bipush (v := (nI 8)) hx hb dX6_isTrue_22 (by decide +kernel) ?_
              refine lv_aload_n hx hb dX6_isTrue_24 rfl (lv_at hl 0 rfl) ?_
              refine va_get (D := D) (ci := 3) (v := .ref ml) (C := RX6) (T := TX6) (N := 6) hx hb hts hi_X6 hown hK hP 0 rfl rfl 1 (by decide) (hts _ (List.mem_of_getElem? (i := 2) rfl)) (fun _ h9 => h9) rfl dX6_isTrue_25 ?_
              refine lv_iload_n hx hb dX6_isTrue_28 rfl (lv_at hl 2 rfl) ?_
              refine ln_iald hx hb hK hP 2 0 rfl rfl ⟨by omega, by omega⟩ dX6_isTrue_29 ?_
              rw [show fl t = nI (N t) from (hMR t (by omega)).1]
              refine ln_mul hx hb dX6_isTrue_30 ?_
              refine lv_iconst (v := (nI 5)) hx hb dX6_isTrue_31 (by decide +kernel) ?_
              refine ln_add hx hb dX6_isTrue_32 ?_
              refine lv_bipush (v := (nI 6)) hx hb dX6_isTrue_33 (by decide +kernel) ?_
              refine ln_div hx hb ⟨by omega, by omega, by omega⟩ dX6_isTrue_35 ?_
              rw [tr_len]
              refine lv_istore (lv' := [(4, .int (nI (sgN (N t) 0))), (0, .ref m0), (1, .int (nI 1)), (2, .int (nI t)), (3, .int (nI kk))]) hx hb dX6_isTrue_36 hl (by decide) rfl (fun ls hl => ?_)
              have hsl := sgN_le (fl := 0) hn
              have hlq := lnN_le (k := kk) (fl := 0) hn
              refine lv_aload_n hx hb dX6_isTrue_38 rfl (lv_at hl 1 rfl) ?_
              refine lv_iload_n hx hb dX6_isTrue_39 rfl (lv_at hl 3 rfl) ?_
              refine lv_iload_n hx hb dX6_isTrue_40 rfl (lv_at hl 4 rfl) ?_
              refine lv_iconst (v := (nI 0)) hx hb dX6_isTrue_41 (by decide +kernel) ?_
              refine mu_V (As := [.int (nI t), .int (nI kk), .int (nI 0)]) (rest := []) (wc := [(m0, .inr (3, [.ref mb, .ref ml, .ref mm, .int (nI mv), .int (nI 0), .ref mk])), (ml, .inl (T 0, 6, .inl fl)), (mb, .inl (T 0, 1920, .inl fb)), (mm, .inl (T 0, 600, .inl F))]) (wr := [(mk, .inl (T 0, 320, .inl fk))]) ⟨hx, hb, hml, hown, hts⟩ (c_X6_writes l D T g H.size m0 mb ml mm mk mv (nI 0) fb fl F t (N t) (Bw t) (by omega) ((hMR t (by omega)).1) ((hMR t (by omega)).2) kk (by omega) 0 (by omega)) (cwV 3 hts gX6_isTrue_X6_writes rfl rfl rfl (by decide +kernel) ⟨Nat.le_of_ble_eq_true rfl, Nat.le_of_ble_eq_true rfl⟩) (va_recv hK hP (ci := 3) (q0 := 0) rfl rfl) hP hD hK hG hS hA [0, 2, 1, 3] [4] rfl (by decide) rfl (by decide) (by decide) ⟨Nat.le_of_ble_eq_true rfl, Nat.le_of_ble_eq_true rfl⟩ rfl hl.1 (Nat.le_of_ble_eq_true rfl) dX6_isTrue_42 rfl (fun u H locs hq5 hP hD hS => ?_)
              obtain ⟨F_4, hu9⟩ : ∃ z, z = u := ⟨_, rfl⟩
              subst hu9
              have hP : va_P D cls [(mk, .inl (T 0, 320, .inl fk)), (m0, .inr (3, [.ref mb, .ref ml, .ref mm, .int (nI (lnN kk (N t) 0)), .int (nI 0), .ref mk])), (ml, .inl (T 0, 6, .inl fl)), (mb, .inl (T 0, 1920, .inl fb)), (mm, .inl (T 0, 600, .inl F_4))] H := hP
              have hD : va_D A [(mk, .inl (T 0, 320, .inl fk)), (m0, .inr (3, [.ref mb, .ref ml, .ref mm, .int (nI (lnN kk (N t) 0)), .int (nI 0), .ref mk])), (ml, .inl (T 0, 6, .inl fl)), (mb, .inl (T 0, 1920, .inl fb)), (mm, .inl (T 0, 600, .inl F_4))] := hD
              have hq5 : MD F_4 (lnN kk (N t) 0) (wrA kk (N t) (Bw t)) := hq5
              refine W.eq (g2 := F0 m 45 ls []) rfl ?_
              have J6 : ∀ (ln9 : Nat), (ln9 = if sgN (N t) 0 = 0 ∨ kk < 2 then 0 else (sgN (N t) 0 - 1) / 76) → ∀ ls : Array Slot, lv_has ls 6 [(0, .ref m0), (1, .int (nI 1)), (2, .int (nI t)), (3, .int (nI kk)), (4, .int (nI (sgN (N t) 0)))] → W p l e (headSpec wsX6_isTrue ({ frames := 60, cells := 0, slots := 0, locals := 3000 } : Room)).room s m ([.ref m0] : List Value).toArray below meth c H locs 0 0 (MQ below (QM D T A (fun u : Nat × Int32 × (Nat → Int32) × (Nat → Int32) × (Nat → Int32) × (Nat → Int32) => some (.int (nI 1))) (fun u : Nat × Int32 × (Nat → Int32) × (Nat → Int32) × (Nat → Int32) × (Nat → Int32) => u.2.1 = nI 0 ∧ MR u.2.2.2.1 u.2.2.1 (N) (Bw)) (fun u : Nat × Int32 × (Nat → Int32) × (Nat → Int32) × (Nat → Int32) × (Nat → Int32) => [(m0, .inr (3, [.ref mb, .ref ml, .ref mm, .int (nI u.1), .int u.2.1, .ref mk])), (mb, .inl (T 0, 1920, .inl u.2.2.1)), (ml, .inl (T 0, 6, .inl u.2.2.2.1)), (mm, .inl (T 0, 600, .inl u.2.2.2.2.1)), (mk, .inl (T 0, 320, .inl u.2.2.2.2.2))])) ([.ref m0] : List Value).toArray s 0 0 A) (F0 m 66 ls [.int (nI ln9)]) := by
                intro ln9 hln9 ls hl
                refine lv_istore (lv' := [(5, .int (nI ln9)), (0, .ref m0), (1, .int (nI 1)), (2, .int (nI t)), (3, .int (nI kk)), (4, .int (nI (sgN (N t) 0)))]) hx hb dX6_isTrue_66 hl (by decide) rfl (fun ls hl => ?_)
                have htl := tr_ln (k := kk) (n := N t) (by omega)
                rw [← hln9] at htl
                refine lv_iload_n hx hb dX6_isTrue_68 rfl (lv_at hl 2 rfl) ?_
                refine lv_aload_n hx hb dX6_isTrue_69 rfl (lv_at hl 1 rfl) ?_
                refine va_get (D := D) (ci := 3) (v := .int (nI (lnN kk (N t) 0))) (C := RX6) (T := TX6) (N := 6) hx hb hts hi_X6 hown hK hP 1 rfl rfl 3 (by decide) (hts _ (List.mem_of_getElem? (i := 3) rfl)) (fun _ h9 => h9) rfl dX6_isTrue_70 ?_
                refine lv_iload hx hb dX6_isTrue_73 (lv_at hl 5 rfl) ?_
                refine lv_iconst (v := (nI 2)) hx hb dX6_isTrue_75 (by decide +kernel) ?_
                refine lv_iload hx hb dX6_isTrue_76 (lv_at hl 0 rfl) ?_
                refine ln_mul hx hb dX6_isTrue_78 ?_
                refine ln_add hx hb dX6_isTrue_79 ?_
                refine ln_icmp_ne_f (tgt := 87) hx hb ⟨by omega, by omega⟩ (by omega) dX6_isTrue_80 (by decide) ?_
                refine lv_iconst (v := (nI 1)) hx hb dX6_isTrue_83 (by decide +kernel) ?_
                refine lv_goto (tgt := 88) hx hb dX6_isTrue_84 (by decide) ?_
                refine lv_iand hx hb dX6_isTrue_88 ?_
                rw [show nI 1 &&& nI 1 = nI 1 from by decide +kernel]
                refine lv_istore_n (lv' := [(1, .int (nI 1)), (5, .int (nI ln9)), (0, .ref m0), (2, .int (nI t)), (3, .int (nI kk)), (4, .int (nI (sgN (N t) 0)))]) hx hb dX6_isTrue_89 rfl hl (by decide) rfl (fun ls hl => ?_)
                refine lv_iinc (v := (nI (kk + 1))) (lv' := [(3, .int (nI (kk + 1))), (1, .int (nI 1)), (5, .int (nI ln9)), (0, .ref m0), (2, .int (nI t)), (4, .int (nI (sgN (N t) 0)))]) hx hb dX6_isTrue_90 hl (k := 4) rfl (ni_inc1 _) (by decide) rfl (fun ls hl => ?_)
                refine lv_goto (tgt := 17) hx hb dX6_isTrue_93 (by decide) ?_
                exact ih_17 (kk + 1) (lnN kk (N t) 0) F_4 (by omega) (by omega) _ _ (hP.sub (ws' := [(m0, .inr (3, [.ref mb, .ref ml, .ref mm, .int (nI (lnN kk (N t) 0)), .int (nI 0), .ref mk])), (mb, .inl (T 0, 1920, .inl fb)), (ml, .inl (T 0, 6, .inl fl)), (mm, .inl (T 0, 600, .inl F_4)), (mk, .inl (T 0, 320, .inl fk))]) [1, 3, 2, 4, 0] rfl) (hD.sub (ws' := [(m0, .inr (3, [.ref mb, .ref ml, .ref mm, .int (nI (lnN kk (N t) 0)), .int (nI 0), .ref mk])), (mb, .inl (T 0, 1920, .inl fb)), (ml, .inl (T 0, 6, .inl fl)), (mm, .inl (T 0, 600, .inl F_4)), (mk, .inl (T 0, 320, .inl fk))]) [1, 3, 2, 4, 0] (by decide) rfl) hS ls (lv_sub hl [3, 1, 4, 0] rfl)
              refine lv_iload hx hb dX6_isTrue_45 (lv_at hl 0 rfl) ?_
              refine ln_if_eq (tgt := 55) hx hb (by omega) dX6_isTrue_47 (by decide) (fun c_47 => ?_) (fun c_47 => ?_)
              · refine lv_iconst (v := (nI 0)) hx hb dX6_isTrue_55 (by decide +kernel) ?_
                refine lv_goto (tgt := 66) hx hb dX6_isTrue_56 (by decide) ?_
                exact J6 0 (by first | rw [if_pos (by omega)] | rw [if_neg (by omega)]) ls (lv_sub hl [1, 2, 3, 4, 0] rfl)
              · refine lv_iload_n hx hb dX6_isTrue_50 rfl (lv_at hl 4 rfl) ?_
                refine lv_iconst (v := (nI 2)) hx hb dX6_isTrue_51 (by decide +kernel) ?_
                refine ln_icmp_ge (tgt := 59) hx hb ⟨by omega, by omega⟩ dX6_isTrue_52 (by decide) (fun c_52 => ?_) (fun c_52 => ?_)
                · refine lv_iload hx hb dX6_isTrue_59 (lv_at hl 0 rfl) ?_
                  refine lv_iconst (v := (nI 1)) hx hb dX6_isTrue_61 (by decide +kernel) ?_
                  refine ln_sub hx hb (by omega) dX6_isTrue_62 ?_
                  refine lv_bipush (v := (nI 76)) hx hb dX6_isTrue_63 (by decide +kernel) ?_
                  refine ln_div hx hb ⟨by omega, by omega, by omega⟩ dX6_isTrue_65 ?_
                  exact J6 (((sgN (N t) 0) - 1) / 76) (by first | rw [if_pos (by omega)] | rw [if_neg (by omega)]) ls (lv_sub hl [1, 2, 3, 4, 0] rfl)
                · refine lv_iconst (v := (nI 0)) hx hb dX6_isTrue_55 (by decide +kernel) ?_
                  refine lv_goto (tgt := 66) hx hb dX6_isTrue_56 (by decide) ?_
                  exact J6 0 (by first | rw [if_pos (by omega)] | rw [if_neg (by omega)]) ls (lv_sub hl [1, 2, 3, 4, 0] rfl)
        exact K2 _ 0 mv F (by omega) (Nat.lt_succ_self _) H locs (hP.sub (ws' := [(m0, .inr (3, [.ref mb, .ref ml, .ref mm, .int (nI mv), .int (nI 0), .ref mk])), (mb, .inl (T 0, 1920, .inl fb)), (ml, .inl (T 0, 6, .inl fl)), (mm, .inl (T 0, 600, .inl F)), (mk, .inl (T 0, 320, .inl fk))]) [0, 1, 2, 3, 4] rfl) (hD.sub (ws' := [(m0, .inr (3, [.ref mb, .ref ml, .ref mm, .int (nI mv), .int (nI 0), .ref mk])), (mb, .inl (T 0, 1920, .inl fb)), (ml, .inl (T 0, 6, .inl fl)), (mm, .inl (T 0, 600, .inl F)), (mk, .inl (T 0, 320, .inl fk))]) [0, 1, 2, 3, 4] (by decide) rfl) hS ls (lv_sub hl [1, 2, 3, 0] rfl)
  exact K1 _ 0 many fm (by omega) (Nat.lt_succ_self _) H locs (hP.sub (ws' := [(m0, .inr (3, [.ref mb, .ref ml, .ref mm, .int (nI many), .int (nI 0), .ref mk])), (mb, .inl (T 0, 1920, .inl fb)), (ml, .inl (T 0, 6, .inl fl)), (mm, .inl (T 0, 600, .inl fm)), (mk, .inl (T 0, 320, .inl fk))]) [0, 1, 2, 3, 4] rfl) (hD.sub (ws' := [(m0, .inr (3, [.ref mb, .ref ml, .ref mm, .int (nI many), .int (nI 0), .ref mk])), (mb, .inl (T 0, 1920, .inl fb)), (ml, .inl (T 0, 6, .inl fl)), (mm, .inl (T 0, 600, .inl fm)), (mk, .inl (T 0, 320, .inl fk))]) [0, 1, 2, 3, 4] (by decide) rfl) hS ls (lv_sub hl [2, 1, 0] rfl)
