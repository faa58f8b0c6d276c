set_option maxHeartbeats 4000000 in
set_option maxRecDepth 100000 in
/-- makes the bytes of a row that is right -/
theorem c_X6_reads (l : Launch) (D : va_G) (T : Nat → ClassId) (g : Nat → Nat) (sz : Nat) (m0 : Nat) (mb : Nat) (ml : Nat) (mm : Nat) (mk : Nat) (many : Nat) (th : Int32) (fb : Nat → Int32) (fl : Nat → Int32) (fm : Nat → Int32) (i : Nat) (n : Nat) (b : Nat → Nat) (hi : i < 6) (hln : fl i = nI n) (hrw : RW fb i n b) (k : Nat) (hk : k < 3) (L9 : Nat) (hu : untB k n b = false) (hL9 : L9 = lF k n b * 6 / 8) : MU l yX6_reads wsX6_reads ({ frames := 2, cells := 0, slots := 0, locals := 46 } : Room) D T g [.ref m0, .int (nI i), .int (nI k), .int (nI L9)] [(m0, .inr (3, [.ref mb, .ref ml, .ref mm, .int (nI many), .int th, .ref mk])), (ml, .inl (T 0, 6, .inl fl)), (mb, .inl (T 0, 1920, .inl fb)), (mm, .inl (T 0, 600, .inl fm))] sz (fun u : Nat → Int32 => none) (fun u : Nat → Int32 => MD u L9 (outB (lwF k n b))) (fun u : Nat → Int32 => [(m0, .inr (3, [.ref mb, .ref ml, .ref mm, .int (nI L9), .int th, .ref mk])), (ml, .inl (T 0, 6, .inl fl)), (mb, .inl (T 0, 1920, .inl fb)), (mm, .inl (T 0, 600, .inl u))]) 0 0 := by
  refine Met.ofW (cc := cX6_reads) (maxL := 8) (ret := none) (by decide) rfl ?_
  intro p e s m args below meth c s₁ B hml hv
  obtain ⟨rfl, hsz, hP, hK, hD0, hG⟩ := hv
  have hx := B.exec
  have hb := B.bytes
  have hr := B.returns
  have hts := atoms_spec (ws := wsX6_reads) B.pre
  have hown : s.vm.findClass RX6 = some m.cls := findClass_of_methodNamed B.named
  have hlocks := B.notSynchronized
  have hi_X6 : ∀ w ∈ wsX60, w ∈ wsX6_reads := by decide +kernel
  subst hsz
  have hD := hD0.self (sz := s.heap.size)
  generalize hAe : va_A [(m0, .inr (3, [.ref mb, .ref ml, .ref mm, .int (nI many), .int th, .ref mk])), (ml, .inl (T 0, 6, .inl fl)), (mb, .inl (T 0, 1920, .inl fb)), (mm, .inl (T 0, 600, .inl fm))] s.heap.size = A at hD hG ⊢
  have hA : ∀ q : Nat, s.heap.size ≤ q → A q := fun q h => by rw [← hAe]; exact Or.inr h
  have hS : va_S A s.heap s.heap [] := va_S.rf
  have hP : va_P D cls [(m0, .inr (3, [.ref mb, .ref ml, .ref mm, .int (nI many), .int th, .ref mk])), (ml, .inl (T 0, 6, .inl fl)), (mb, .inl (T 0, 1920, .inl fb)), (mm, .inl (T 0, 600, .inl fm))] s.heap := hP
  have hl := lv_entry ([.ref m0, .int (nI i), .int (nI k), .int (nI L9)]) (n := 8) (Nat.le_of_ble_eq_true rfl)
  rw [lg_entry_eq]
  generalize (lg_sl ([.ref m0, .int (nI i), .int (nI k), .int (nI L9)]) ++ List.replicate (8 - (lg_sl ([.ref m0, .int (nI i), .int (nI k), .int (nI L9)])).length) Slot.unset).toArray = ls at hl ⊢
  have hl : lv_has ls 8 [(0, .ref m0), (1, .int (nI i)), (2, .int (nI k)), (3, .int (nI L9))] := hl
  have hn := hrw.1
  have hb0 : ∀ j, j < n → b j < 256 := fun j hj => (hrw.2 j hj).2
  have hlf : lF k n b ≤ n := Nat.le_trans (lF_le k n b) (fF_le n b)
  refine lv_aload_n hx hb dX6_reads_0 rfl (lv_at hl 0 rfl) ?_
  refine lv_iconst (v := (nI 0)) hx hb dX6_reads_1 (by decide +kernel) ?_
  refine va_put (D := D) (ci := 3) (v := .int (nI 0)) (ty := .int) (C := RX6) (T := TX6) (N := 6) hx hb hts hi_X6 tyX6 tyX6_ok nmX6 hown hK hP hD hS 0 rfl rfl 3 (by decide) (hts _ (List.mem_of_getElem? (i := 1) rfl)) (fun _ h9 => h9) rfl (by decide +kernel) rfl rfl (Nat.le_of_ble_eq_true rfl) dX6_reads_2 (fun H locs hP hD hS => ?_)
  have hP : va_P D cls [(m0, .inr (3, [.ref mb, .ref ml, .ref mm, .int (nI 0), .int th, .ref mk])), (ml, .inl (T 0, 6, .inl fl)), (mb, .inl (T 0, 1920, .inl fb)), (mm, .inl (T 0, 600, .inl fm))] H := hP
  have hD : va_D A [(m0, .inr (3, [.ref mb, .ref ml, .ref mm, .int (nI 0), .int th, .ref mk])), (ml, .inl (T 0, 6, .inl fl)), (mb, .inl (T 0, 1920, .inl fb)), (mm, .inl (T 0, 600, .inl fm))] := hD
  refine lv_iconst (v := (nI 0)) hx hb dX6_reads_5 (by decide +kernel) ?_
  refine lv_istore (lv' := [(4, .int (nI 0)), (0, .ref m0), (1, .int (nI i)), (2, .int (nI k)), (3, .int (nI L9))]) hx hb dX6_reads_6 hl (by decide) rfl (fun ls hl => ?_)
  refine lv_iconst (v := (nI 0)) hx hb dX6_reads_8 (by decide +kernel) ?_
  refine lv_istore (lv' := [(5, .int (nI 0)), (4, .int (nI 0)), (0, .ref m0), (1, .int (nI i)), (2, .int (nI k)), (3, .int (nI L9))]) hx hb dX6_reads_9 hl (by decide) rfl (fun ls hl => ?_)
  refine lv_iconst (v := (nI 0)) hx hb dX6_reads_11 (by decide +kernel) ?_
  have e0 : 0 = (lwS k b 0).length * 6 / 8 := by simp [lwS]
  refine lv_istore (lv' := [(6, .int (nI 0)), (5, .int (nI 0)), (4, .int (nI 0)), (0, .ref m0), (1, .int (nI i)), (2, .int (nI k)), (3, .int (nI L9))]) hx hb dX6_reads_12 hl (by decide) rfl (fun ls hl => ?_)
  have K1 : ∀ (N9 : Nat) (w7 : Nat) (B0 : Nat) (F : Nat → Int32), (w7 ≤ n) → (rdI (lwS k b w7) B0) → (MD F ((lwS k b w7).length * 6 / 8) (outB (lwS k b w7))) → n - w7 < N9 → ∀ (H : Heap) (locs : List Loc), va_P D cls [(m0, .inr (3, [.ref mb, .ref ml, .ref mm, .int (nI ((lwS k b w7).length * 6 / 8)), .int th, .ref mk])), (ml, .inl (T 0, 6, .inl fl)), (mb, .inl (T 0, 1920, .inl fb)), (mm, .inl (T 0, 600, .inl F))] H → va_D A [(m0, .inr (3, [.ref mb, .ref ml, .ref mm, .int (nI ((lwS k b w7).length * 6 / 8)), .int th, .ref mk])), (ml, .inl (T 0, 6, .inl fl)), (mb, .inl (T 0, 1920, .inl fb)), (mm, .inl (T 0, 600, .inl F))] → va_S A s.heap H locs → ∀ ls : Array Slot, lv_has ls 8 [(0, .ref m0), (1, .int (nI i)), (2, .int (nI k)), (3, .int (nI L9)), (4, .int (nI B0)), (5, .int (nI ((lwS k b w7).length * 6 % 8))), (6, .int (nI w7))] → W p l e (headSpec wsX6_reads ({ frames := 2, cells := 0, slots := 0, locals := 46 } : Room)).room s m ([.ref m0, .int (nI i), .int (nI k), .int (nI L9)] : List Value).toArray below meth c H locs 0 0 (MQ below (QM D T A (fun u : Nat → Int32 => none) (fun u : Nat → Int32 => MD u L9 (outB (lwF k n b))) (fun u : Nat → Int32 => [(m0, .inr (3, [.ref mb, .ref ml, .ref mm, .int (nI L9), .int th, .ref mk])), (ml, .inl (T 0, 6, .inl fl)), (mb, .inl (T 0, 1920, .inl fb)), (mm, .inl (T 0, 600, .inl u))])) ([.ref m0, .int (nI i), .int (nI k), .int (nI L9)] : List Value).toArray s 0 0 A) (F0 m 14 ls []) := by
    intro N9
    induction N9 with
    | zero => intro w7 B0 F hp hB hF h9; exact absurd h9 (Nat.not_lt_zero _)
    | succ N9 ih_14 =>
      intro w7 B0 F hp hB hF h9 H locs hP hD hS ls hl
      refine lv_iload hx hb dX6_reads_14 (lv_at hl 6 rfl) ?_
      refine lv_aload_n hx hb dX6_reads_16 rfl (lv_at hl 0 rfl) ?_
      refine va_get (D := D) (ci := 3) (v := .ref ml) (C := RX6) (T := TX6) (N := 6) hx hb hts hi_X6 hown hK hP 0 rfl rfl 1 (by decide) (hts _ (List.mem_of_getElem? (i := 2) rfl)) (fun _ h9 => h9) rfl dX6_reads_17 ?_
      refine lv_iload_n hx hb dX6_reads_20 rfl (lv_at hl 1 rfl) ?_
      refine ln_iald hx hb hK hP 1 0 rfl rfl ⟨by omega, by omega⟩ dX6_reads_21 ?_
      rw [show fl i = nI n from hln]
      refine ln_icmp_ge (tgt := 98) hx hb ⟨by omega, by omega⟩ dX6_reads_22 (by decide) (fun c_22 => ?_) (fun c_22 => ?_)
      · have h8 := rd_end hk hu hp (by first | exact Or.inl (by omega) | exact Or.inr (by omega))
        have hF3 : MD F L9 (outB (lwF k n b)) := by rw [hL9, ← h8.1]; exact MD_cong hF (fun j hj => h8.2 j (by omega))
        have e11 : (lwS k b w7).length * 6 / 8 = L9 := by rw [hL9]; exact h8.1
        rw [e11] at hP hD
        have hP9 := hP.sub (ws' := [(m0, .inr (3, [.ref mb, .ref ml, .ref mm, .int (nI L9), .int th, .ref mk])), (ml, .inl (T 0, 6, .inl fl)), (mb, .inl (T 0, 1920, .inl fb)), (mm, .inl (T 0, 600, .inl F))]) [0, 1, 2, 3] rfl
        have hD9 := hD.sub (ws' := [(m0, .inr (3, [.ref mb, .ref ml, .ref mm, .int (nI L9), .int th, .ref mk])), (ml, .inl (T 0, 6, .inl fl)), (mb, .inl (T 0, 1920, .inl fb)), (mm, .inl (T 0, 600, .inl F))]) [0, 1, 2, 3] (by decide) rfl
        exact W.vret hx hb hr (fun t ht hW => ⟨⟨F, rfl, hF3, (by rw [ht]; exact hP9), va_K.moved hW.alike hK, hD9⟩, hS.F ht⟩) hS.2.2 dX6_reads_98
      · have hle6 := lwS_le k b w7
        refine lv_aload_n hx hb dX6_reads_25 rfl (lv_at hl 0 rfl) ?_
        refine va_get (D := D) (ci := 3) (v := .int (nI ((lwS k b w7).length * 6 / 8))) (C := RX6) (T := TX6) (N := 6) hx hb hts hi_X6 hown hK hP 0 rfl rfl 3 (by decide) (hts _ (List.mem_of_getElem? (i := 1) rfl)) (fun _ h9 => h9) rfl dX6_reads_26 ?_
        refine lv_iload_n hx hb dX6_reads_29 rfl (lv_at hl 3 rfl) ?_
        refine ln_icmp_ge (tgt := 98) hx hb ⟨by omega, by omega⟩ dX6_reads_30 (by decide) (fun c_30 => ?_) (fun c_30 => ?_)
        · have h8 := rd_end hk hu hp (by first | exact Or.inl (by omega) | exact Or.inr (by omega))
          have hF3 : MD F L9 (outB (lwF k n b)) := by rw [hL9, ← h8.1]; exact MD_cong hF (fun j hj => h8.2 j (by omega))
          have e11 : (lwS k b w7).length * 6 / 8 = L9 := by rw [hL9]; exact h8.1
          rw [e11] at hP hD
          have hP9 := hP.sub (ws' := [(m0, .inr (3, [.ref mb, .ref ml, .ref mm, .int (nI L9), .int th, .ref mk])), (ml, .inl (T 0, 6, .inl fl)), (mb, .inl (T 0, 1920, .inl fb)), (mm, .inl (T 0, 600, .inl F))]) [0, 1, 2, 3] rfl
          have hD9 := hD.sub (ws' := [(m0, .inr (3, [.ref mb, .ref ml, .ref mm, .int (nI L9), .int th, .ref mk])), (ml, .inl (T 0, 6, .inl fl)), (mb, .inl (T 0, 1920, .inl fb)), (mm, .inl (T 0, 600, .inl F))]) [0, 1, 2, 3] (by decide) rfl
          exact W.vret hx hb hr (fun t ht hW => ⟨⟨F, rfl, hF3, (by rw [ht]; exact hP9), va_K.moved hW.alike hK, hD9⟩, hS.F ht⟩) hS.2.2 dX6_reads_98
        · refine lv_aload_n hx hb dX6_reads_33 rfl (lv_at hl 0 rfl) ?_
          refine lv_aload_n hx hb dX6_reads_34 rfl (lv_at hl 0 rfl) ?_
          refine lv_iload_n hx hb dX6_reads_35 rfl (lv_at hl 1 rfl) ?_
          refine lv_iload hx hb dX6_reads_36 (lv_at hl 6 rfl) ?_
          refine ro_V (As := [.int (nI i), .int (nI w7)]) (rest := [.ref m0]) (wc := [(m0, .inr (3, [.ref mb, .ref ml, .ref mm, .int (nI ((lwS k b w7).length * 6 / 8)), .int th, .ref mk])), (mb, .inl (T 0, 1920, .inl fb))]) (r := .int (nI (b w7))) ⟨hx, hb, hml, hown, hts⟩ (c_X6_atB l D T g m0 mb ml mm mk ((lwS k b w7).length * 6 / 8) th fb i w7 n b hi hrw (by omega)) (cwV 2 hts gX6_reads_X6_at rfl rfl rfl (by decide +kernel) ⟨Nat.le_of_ble_eq_true rfl, Nat.le_of_ble_eq_true rfl⟩) (va_recv hK hP (ci := 3) (q0 := 0) rfl rfl) hP hK hG hS [0, 2] rfl ⟨Nat.zero_le _, Nat.zero_le _⟩ rfl hl.1 (Nat.le_of_ble_eq_true rfl) dX6_reads_38 rfl ?_
          refine lv_iload_n hx hb dX6_reads_41 rfl (lv_at hl 2 rfl) ?_
          refine ro_V (As := [.int (nI (b w7)), .int (nI k)]) (rest := []) (wc := [(m0, .inr (3, [.ref mb, .ref ml, .ref mm, .int (nI ((lwS k b w7).length * 6 / 8)), .int th, .ref mk]))]) (r := .int (wV k (b w7))) ⟨hx, hb, hml, hown, hts⟩ (c_X6_worth l D T g m0 mb ml mm mk ((lwS k b w7).length * 6 / 8) th (b w7) (hb0 w7 (by omega)) k hk) (cwV 2 hts gX6_reads_X6_worth rfl rfl rfl (by decide +kernel) ⟨Nat.le_of_ble_eq_true rfl, Nat.le_of_ble_eq_true rfl⟩) (va_recv hK hP (ci := 3) (q0 := 0) rfl rfl) hP hK hG hS [0] rfl ⟨Nat.zero_le _, Nat.zero_le _⟩ rfl hl.1 (Nat.le_of_ble_eq_true rfl) dX6_reads_42 rfl ?_
          by_cases hw6 : wN k (b w7) < 64
          · have hL8 : isL k (b w7) = true := decide_eq_true hw6
            rw [wV_pos hw6]
            have e6 := lwS_y (b := b) hL8
            have e7 : (lwS k b (w7 + 1)).length = (lwS k b w7).length + 1 := by rw [e6, lenA]
            refine lv_istore (lv' := [(7, .int (nI (wN k (b w7)))), (0, .ref m0), (1, .int (nI i)), (2, .int (nI k)), (3, .int (nI L9)), (4, .int (nI B0)), (5, .int (nI ((lwS k b w7).length * 6 % 8))), (6, .int (nI w7))]) hx hb dX6_reads_45 hl (by decide) rfl (fun ls hl => ?_)
            refine lv_iload hx hb dX6_reads_47 (lv_at hl 0 rfl) ?_
            refine ln_if_lt_f (tgt := 92) hx hb (by omega) dX6_reads_49 (by decide) ?_
            refine lv_iload hx hb dX6_reads_52 (lv_at hl 5 rfl) ?_
            refine lv_sipush (v := (nI 255)) hx hb dX6_reads_54 (by decide +kernel) ?_
            refine ln_and hx hb 8 (by have := hB.1; omega) (by decide +kernel) dX6_reads_57 ?_
            refine lv_bipush (v := (nI 64)) hx hb dX6_reads_58 (by decide +kernel) ?_
            refine ln_mul hx hb dX6_reads_60 ?_
            refine lv_iload hx hb dX6_reads_61 (lv_at hl 0 rfl) ?_
            refine ln_add hx hb dX6_reads_63 ?_
            refine lv_istore (lv' := [(4, .int (nI (((B0 % 2 ^ 8) * 64) + (wN k (b w7))))), (7, .int (nI (wN k (b w7)))), (0, .ref m0), (1, .int (nI i)), (2, .int (nI k)), (3, .int (nI L9)), (5, .int (nI ((lwS k b w7).length * 6 % 8))), (6, .int (nI w7))]) hx hb dX6_reads_64 hl (by decide) rfl (fun ls hl => ?_)
            refine lv_iinc (v := (nI (((lwS k b w7).length * 6 % 8) + 6))) (lv' := [(5, .int (nI (((lwS k b w7).length * 6 % 8) + 6))), (4, .int (nI (((B0 % 2 ^ 8) * 64) + (wN k (b w7))))), (7, .int (nI (wN k (b w7)))), (0, .ref m0), (1, .int (nI i)), (2, .int (nI k)), (3, .int (nI L9)), (6, .int (nI w7))]) hx hb dX6_reads_66 hl (k := 6) rfl (ni_inc6 _) (by decide) rfl (fun ls hl => ?_)
            refine lv_iload hx hb dX6_reads_69 (lv_at hl 0 rfl) ?_
            refine lv_bipush (v := (nI 8)) hx hb dX6_reads_71 (by decide +kernel) ?_
            refine ln_icmp_lt (tgt := 92) hx hb ⟨by omega, by omega⟩ dX6_reads_73 (by decide) (fun c_73 => ?_) (fun c_73 => ?_)
            · have hB3 : rdI (lwS k b (w7 + 1)) (B0 % 2 ^ 8 * 64 + wN k (b w7)) := by rw [e6]; exact rdI_app hw6
              have e8 : (lwS k b w7).length * 6 % 8 + 6 = (lwS k b (w7 + 1)).length * 6 % 8 := by rw [e7]; omega
              have e10 : (lwS k b w7).length * 6 / 8 = (lwS k b (w7 + 1)).length * 6 / 8 := by rw [e7]; omega
              have hF3 : MD F ((lwS k b (w7 + 1)).length * 6 / 8) (outB (lwS k b (w7 + 1))) := by rw [← e10, e6]; exact MD_cong hF (fun j hj => (out_app hj).symm)
              rw [e8] at hl
              refine lv_iinc (v := (nI (w7 + 1))) (lv' := [(6, .int (nI (w7 + 1))), (5, .int (nI ((lwS k b (w7 + 1)).length * 6 % 8))), (4, .int (nI (((B0 % 2 ^ 8) * 64) + (wN k (b w7))))), (7, .int (nI (wN k (b w7)))), (0, .ref m0), (1, .int (nI i)), (2, .int (nI k)), (3, .int (nI L9))]) hx hb dX6_reads_92 hl (k := 7) rfl (ni_inc1 _) (by decide) rfl (fun ls hl => ?_)
              refine lv_goto (tgt := 14) hx hb dX6_reads_95 (by decide) ?_
              exact ih_14 (w7 + 1) (((B0 % 2 ^ 8) * 64) + (wN k (b w7))) F (by omega) (hB3) (hF3) (by omega) _ _ (by rw [← e10]; exact hP.sub (ws' := [(m0, .inr (3, [.ref mb, .ref ml, .ref mm, .int (nI ((lwS k b w7).length * 6 / 8)), .int th, .ref mk])), (ml, .inl (T 0, 6, .inl fl)), (mb, .inl (T 0, 1920, .inl fb)), (mm, .inl (T 0, 600, .inl F))]) [0, 1, 2, 3] rfl) (by rw [← e10]; exact hD.sub (ws' := [(m0, .inr (3, [.ref mb, .ref ml, .ref mm, .int (nI ((lwS k b w7).length * 6 / 8)), .int th, .ref mk])), (ml, .inl (T 0, 6, .inl fl)), (mb, .inl (T 0, 1920, .inl fb)), (mm, .inl (T 0, 600, .inl F))]) [0, 1, 2, 3] (by decide) rfl) hS ls (lv_sub hl [4, 5, 6, 7, 2, 1, 0] rfl)
            · refine lv_iinc (v := (nI ((lwS k b w7).length * 6 % 8 + 6 - 8))) (lv' := [(5, .int (nI ((lwS k b w7).length * 6 % 8 + 6 - 8))), (4, .int (nI (((B0 % 2 ^ 8) * 64) + (wN k (b w7))))), (7, .int (nI (wN k (b w7)))), (0, .ref m0), (1, .int (nI i)), (2, .int (nI k)), (3, .int (nI L9)), (6, .int (nI w7))]) hx hb dX6_reads_76 hl (k := 0) rfl (ni_dec8 (by omega)) (by decide) rfl (fun ls hl => ?_)
              refine lv_aload_n hx hb dX6_reads_79 rfl (lv_at hl 3 rfl) ?_
              refine lv_iload hx hb dX6_reads_80 (lv_at hl 1 rfl) ?_
              have hb6 := hB.1
              refine lv_iload hx hb dX6_reads_82 (lv_at hl 0 rfl) ?_
              refine ln_shr hx hb ⟨by omega, by omega⟩ dX6_reads_84 ?_
              refine lv_sipush (v := (nI 255)) hx hb dX6_reads_85 (by decide +kernel) ?_
              refine ln_and hx hb 8 (Nat.lt_of_le_of_lt (Nat.div_le_self _ _) (by omega)) (by decide +kernel) dX6_reads_88 ?_
              refine mu_V (As := [.int (nI (((((B0 % 2 ^ 8) * 64) + (wN k (b w7))) / 2 ^ ((lwS k b w7).length * 6 % 8 + 6 - 8)) % 2 ^ 8))]) (rest := []) (wc := [(m0, .inr (3, [.ref mb, .ref ml, .ref mm, .int (nI ((lwS k b w7).length * 6 / 8)), .int th, .ref mk])), (mm, .inl (T 0, 600, .inl F))]) (wr := [(ml, .inl (T 0, 6, .inl fl)), (mb, .inl (T 0, 1920, .inl fb))]) ⟨hx, hb, hml, hown, hts⟩ (c_X6_makes l D T g H.size m0 mb ml mm mk ((lwS k b w7).length * 6 / 8) th F (nI (((((B0 % 2 ^ 8) * 64) + (wN k (b w7))) / 2 ^ ((lwS k b w7).length * 6 % 8 + 6 - 8)) % 2 ^ 8)) (by omega)) (cwV 1 hts gX6_reads_X6_makes rfl rfl rfl (by decide +kernel) ⟨Nat.le_of_ble_eq_true rfl, Nat.le_of_ble_eq_true rfl⟩) (va_recv hK hP (ci := 3) (q0 := 0) rfl rfl) hP hD hK hG hS hA [0, 3] [1, 2] rfl (by decide) rfl (by decide) (by decide) ⟨Nat.le_of_ble_eq_true rfl, Nat.le_of_ble_eq_true rfl⟩ rfl hl.1 (Nat.le_of_ble_eq_true rfl) dX6_reads_89 rfl (fun u H locs hq2 hP hD hS => ?_)
              have hP : va_P D cls [(ml, .inl (T 0, 6, .inl fl)), (mb, .inl (T 0, 1920, .inl fb)), (m0, .inr (3, [.ref mb, .ref ml, .ref mm, .int (nI (((lwS k b w7).length * 6 / 8) + 1)), .int th, .ref mk])), (mm, .inl (T 0, 600, .inl (upd F ((lwS k b w7).length * 6 / 8) (nI (((((B0 % 2 ^ 8) * 64) + (wN k (b w7))) / 2 ^ ((lwS k b w7).length * 6 % 8 + 6 - 8)) % 2 ^ 8)))))] H := hP
              have hD : va_D A [(ml, .inl (T 0, 6, .inl fl)), (mb, .inl (T 0, 1920, .inl fb)), (m0, .inr (3, [.ref mb, .ref ml, .ref mm, .int (nI (((lwS k b w7).length * 6 / 8) + 1)), .int th, .ref mk])), (mm, .inl (T 0, 600, .inl (upd F ((lwS k b w7).length * 6 / 8) (nI (((((B0 % 2 ^ 8) * 64) + (wN k (b w7))) / 2 ^ ((lwS k b w7).length * 6 % 8 + 6 - 8)) % 2 ^ 8)))))] := hD
              refine W.eq (g2 := F0 m 92 ls []) rfl ?_
              have hB3 : rdI (lwS k b (w7 + 1)) (B0 % 2 ^ 8 * 64 + wN k (b w7)) := by rw [e6]; exact rdI_app hw6
              have e8 : (lwS k b w7).length * 6 % 8 + 6 - 8 = (lwS k b (w7 + 1)).length * 6 % 8 := by rw [e7]; omega
              have e10 : (lwS k b w7).length * 6 / 8 + 1 = (lwS k b (w7 + 1)).length * 6 / 8 := by rw [e7]; omega
              have hF3 : MD (upd F ((lwS k b w7).length * 6 / 8) (nI (((((B0 % 2 ^ 8) * 64) + (wN k (b w7))) / 2 ^ ((lwS k b w7).length * 6 % 8 + 6 - 8)) % 2 ^ 8))) ((lwS k b (w7 + 1)).length * 6 / 8) (outB (lwS k b (w7 + 1))) := by rw [← e10, e6]; exact MD_next (MD_cong hF (fun j hj => (out_app hj).symm)) (by omega) (rd_byte (lwS_64 k b w7) hB hw6 (by omega)) (by omega)
              rw [e8] at hl
              refine lv_iinc (v := (nI (w7 + 1))) (lv' := [(6, .int (nI (w7 + 1))), (5, .int (nI ((lwS k b (w7 + 1)).length * 6 % 8))), (4, .int (nI (((B0 % 2 ^ 8) * 64) + (wN k (b w7))))), (7, .int (nI (wN k (b w7)))), (0, .ref m0), (1, .int (nI i)), (2, .int (nI k)), (3, .int (nI L9))]) hx hb dX6_reads_92 hl (k := 7) rfl (ni_inc1 _) (by decide) rfl (fun ls hl => ?_)
              refine lv_goto (tgt := 14) hx hb dX6_reads_95 (by decide) ?_
              exact ih_14 (w7 + 1) (((B0 % 2 ^ 8) * 64) + (wN k (b w7))) (upd F ((lwS k b w7).length * 6 / 8) (nI (((((B0 % 2 ^ 8) * 64) + (wN k (b w7))) / 2 ^ ((lwS k b w7).length * 6 % 8 + 6 - 8)) % 2 ^ 8))) (by omega) (hB3) (hF3) (by omega) _ _ (by rw [← e10]; exact hP.sub (ws' := [(m0, .inr (3, [.ref mb, .ref ml, .ref mm, .int (nI (((lwS k b w7).length * 6 / 8) + 1)), .int th, .ref mk])), (ml, .inl (T 0, 6, .inl fl)), (mb, .inl (T 0, 1920, .inl fb)), (mm, .inl (T 0, 600, .inl (upd F ((lwS k b w7).length * 6 / 8) (nI (((((B0 % 2 ^ 8) * 64) + (wN k (b w7))) / 2 ^ ((lwS k b w7).length * 6 % 8 + 6 - 8)) % 2 ^ 8)))))]) [2, 0, 1, 3] rfl) (by rw [← e10]; exact hD.sub (ws' := [(m0, .inr (3, [.ref mb, .ref ml, .ref mm, .int (nI (((lwS k b w7).length * 6 / 8) + 1)), .int th, .ref mk])), (ml, .inl (T 0, 6, .inl fl)), (mb, .inl (T 0, 1920, .inl fb)), (mm, .inl (T 0, 600, .inl (upd F ((lwS k b w7).length * 6 / 8) (nI (((((B0 % 2 ^ 8) * 64) + (wN k (b w7))) / 2 ^ ((lwS k b w7).length * 6 % 8 + 6 - 8)) % 2 ^ 8)))))]) [2, 0, 1, 3] (by decide) rfl) hS ls (lv_sub hl [4, 5, 6, 7, 2, 1, 0] rfl)
          · have hL8 : isL k (b w7) = false := decide_eq_false hw6
            rw [wV_no hw6]
            have e6 := lwS_n (b := b) hL8
            refine lv_istore (lv' := [(7, .int (-1)), (0, .ref m0), (1, .int (nI i)), (2, .int (nI k)), (3, .int (nI L9)), (4, .int (nI B0)), (5, .int (nI ((lwS k b w7).length * 6 % 8))), (6, .int (nI w7))]) hx hb dX6_reads_45 hl (by decide) rfl (fun ls hl => ?_)
            refine lv_iload hx hb dX6_reads_47 (lv_at hl 0 rfl) ?_
            refine lv_if_lt (tgt := 92) hx hb dX6_reads_49 (by decide) (fun _ => ?_) (fun q9 => absurd (by decide) q9)
            have hB3 : rdI (lwS k b (w7 + 1)) B0 := by rw [e6]; exact hB
            have hF3 : MD F ((lwS k b (w7 + 1)).length * 6 / 8) (outB (lwS k b (w7 + 1))) := by rw [e6]; exact hF
            have e8 : nI ((lwS k b w7).length * 6 % 8) = nI ((lwS k b (w7 + 1)).length * 6 % 8) := by rw [e6]
            rw [e8] at hl
            refine lv_iinc (v := (nI (w7 + 1))) (lv' := [(6, .int (nI (w7 + 1))), (7, .int (-1)), (0, .ref m0), (1, .int (nI i)), (2, .int (nI k)), (3, .int (nI L9)), (4, .int (nI B0)), (5, .int (nI ((lwS k b (w7 + 1)).length * 6 % 8)))]) hx hb dX6_reads_92 hl (k := 7) rfl (ni_inc1 _) (by decide) rfl (fun ls hl => ?_)
            refine lv_goto (tgt := 14) hx hb dX6_reads_95 (by decide) ?_
            exact ih_14 (w7 + 1) B0 F (by omega) (hB3) (hF3) (by omega) _ _ (by rw [e6]; exact hP.sub (ws' := [(m0, .inr (3, [.ref mb, .ref ml, .ref mm, .int (nI ((lwS k b w7).length * 6 / 8)), .int th, .ref mk])), (ml, .inl (T 0, 6, .inl fl)), (mb, .inl (T 0, 1920, .inl fb)), (mm, .inl (T 0, 600, .inl F))]) [0, 1, 2, 3] rfl) (by rw [e6]; exact hD.sub (ws' := [(m0, .inr (3, [.ref mb, .ref ml, .ref mm, .int (nI ((lwS k b w7).length * 6 / 8)), .int th, .ref mk])), (ml, .inl (T 0, 6, .inl fl)), (mb, .inl (T 0, 1920, .inl fb)), (mm, .inl (T 0, 600, .inl F))]) [0, 1, 2, 3] (by decide) rfl) hS ls (lv_sub hl [2, 3, 4, 5, 6, 7, 0] rfl)
  exact K1 _ 0 0 fm (by omega) (rdI_0) (by rw [← e0]; exact MD_zero _ _) (Nat.lt_succ_self _) H locs (by rw [← e0]; exact hP.sub (ws' := [(m0, .inr (3, [.ref mb, .ref ml, .ref mm, .int (nI 0), .int th, .ref mk])), (ml, .inl (T 0, 6, .inl fl)), (mb, .inl (T 0, 1920, .inl fb)), (mm, .inl (T 0, 600, .inl fm))]) [0, 1, 2, 3] rfl) (by rw [← e0]; exact hD.sub (ws' := [(m0, .inr (3, [.ref mb, .ref ml, .ref mm, .int (nI 0), .int th, .ref mk])), (ml, .inl (T 0, 6, .inl fl)), (mb, .inl (T 0, 1920, .inl fb)), (mm, .inl (T 0, 600, .inl fm))]) [0, 1, 2, 3] (by decide) rfl) hS ls (lv_sub hl [3, 4, 5, 6, 2, 1, 0] rfl)
set_option maxHeartbeats 4000000 in
set_option maxRecDepth 100000 in
/-- whether what is made is a row -/
theorem c_X6_isMade (l : Launch) (D : va_G) (T : Nat → ClassId) (g : Nat → Nat) (m0 : Nat) (mb : Nat) (ml : Nat) (mm : Nat) (mk : Nat) (many : Nat) (th : Int32) (fb : Nat → Int32) (fl : Nat → Int32) (fm : Nat → Int32) (i : Nat) (n : Nat) (b : Nat → Nat) (hi : i < 6) (hln : fl i = nI n) (hrw : RW fb i n b) (w : Nat → Nat) (hMD : MD fm many w) : RO l yX6_isMade wsX6_isMade ({ frames := 1, cells := 0, slots := 0, locals := 22 } : Room) D T g [.ref m0, .int (nI i)] [(m0, .inr (3, [.ref mb, .ref ml, .ref mm, .int (nI many), .int th, .ref mk])), (ml, .inl (T 0, 6, .inl fl)), (mb, .inl (T 0, 1920, .inl fb)), (mm, .inl (T 0, 600, .inl fm))] (.int (bI (saB n b many w))) := by
  refine Met.ofW (cc := cX6_isMade) (maxL := 4) (ret := (some .boolean)) (by decide) rfl ?_
  intro p e s m args below meth c s₁ B hml hv
  obtain ⟨rfl, hP, hK, hG⟩ := hv
  have hx := B.exec
  have hb := B.bytes
  have hr := B.returns
  have hts := atoms_spec (ws := wsX6_isMade) B.pre
  have hown : s.vm.findClass RX6 = some m.cls := findClass_of_methodNamed B.named
  have hlocks := B.notSynchronized
  have hi_X6 : ∀ w ∈ wsX60, w ∈ wsX6_isMade := by decide +kernel
  have hS : va_S (fun _ => False) s.heap s.heap [] := va_S.rf
  have hl := lv_entry ([.ref m0, .int (nI i)]) (n := 4) (Nat.le_of_ble_eq_true rfl)
  rw [lg_entry_eq]
  generalize (lg_sl ([.ref m0, .int (nI i)]) ++ List.replicate (4 - (lg_sl ([.ref m0, .int (nI i)])).length) Slot.unset).toArray = ls at hl ⊢
  have hl : lv_has ls 4 [(0, .ref m0), (1, .int (nI i))] := hl
  have hn := hrw.1
  have hb0 : ∀ j, j < n → b j < 256 := fun j hj => (hrw.2 j hj).2
  have hm9 := hMD.1
  refine lv_aload_n hx hb dX6_isMade_0 rfl (lv_at hl 0 rfl) ?_
  refine va_get (D := D) (ci := 3) (v := .int (nI many)) (C := RX6) (T := TX6) (N := 6) hx hb hts hi_X6 hown hK hP 0 rfl rfl 3 (by decide) (hts _ (List.mem_of_getElem? (i := 1) rfl)) (fun _ h9 => h9) rfl dX6_isMade_1 ?_
  refine lv_aload_n hx hb dX6_isMade_4 rfl (lv_at hl 0 rfl) ?_
  refine va_get (D := D) (ci := 3) (v := .ref ml) (C := RX6) (T := TX6) (N := 6) hx hb hts hi_X6 hown hK hP 0 rfl rfl 1 (by decide) (hts _ (List.mem_of_getElem? (i := 2) rfl)) (fun _ h9 => h9) rfl dX6_isMade_5 ?_
  refine lv_iload_n hx hb dX6_isMade_8 rfl (lv_at hl 1 rfl) ?_
  refine ln_iald hx hb hK hP 1 0 rfl rfl ⟨by omega, by omega⟩ dX6_isMade_9 ?_
  rw [show fl i = nI n from hln]
  refine ln_icmp_ne (tgt := 17) hx hb ⟨by omega, by omega⟩ dX6_isMade_10 (by decide) (fun c_10 => ?_) (fun c_10 => ?_)
  · refine lv_iconst (v := (nI 0)) hx hb dX6_isMade_17 (by decide +kernel) ?_
    rw [show nI 0 = bI false from rfl]
    refine lv_istore_n (lv' := [(2, .int (bI false)), (0, .ref m0), (1, .int (nI i))]) hx hb dX6_isMade_18 rfl hl (by decide) rfl (fun ls hl => ?_)
    refine lv_iconst (v := (nI 0)) hx hb dX6_isMade_19 (by decide +kernel) ?_
    refine lv_istore_n (lv' := [(3, .int (nI 0)), (2, .int (bI false)), (0, .ref m0), (1, .int (nI i))]) hx hb dX6_isMade_20 rfl hl (by decide) rfl (fun ls hl => ?_)
    have K1 : ∀ (N9 : Nat) (j : Nat) (r : Bool), (r = true → j ≤ many) → (r = true ↔ (n = many ∧ ∀ x, x < j → b x = w x)) → (j ≤ many) → many - j < N9 → ∀ ls : Array Slot, lv_has ls 4 [(0, .ref m0), (1, .int (nI i)), (2, .int (bI r)), (3, .int (nI j))] → W p l e (headSpec wsX6_isMade ({ frames := 1, cells := 0, slots := 0, locals := 22 } : Room)).room s m ([.ref m0, .int (nI i)] : List Value).toArray below meth c s.heap [] 0 0 (MQ below (k2_QcV (.int (bI (saB n b many w)))) ([.ref m0, .int (nI i)] : List Value).toArray s 0 0 (fun _ => False)) (F0 m 21 ls []) := by
      intro N9
      induction N9 with
      | zero => intro j r hj hr9 hj2 h9; exact absurd h9 (Nat.not_lt_zero _)
      | succ N9 ih_21 =>
        intro j r hj hr9 hj2 h9 ls hl
        refine lv_iload_n hx hb dX6_isMade_21 rfl (lv_at hl 2 rfl) ?_
        refine lv_if_eq (tgt := 60) hx hb dX6_isMade_22 (by decide) (fun c_22 => ?_) (fun c_22 => ?_)
        · refine lv_iload_n hx hb dX6_isMade_60 rfl (lv_at hl 2 rfl) ?_
          exact W.zret (v := (bI r)) (ty := .boolean) hx hb hr (zr_bI _) (fun t ht hW => ⟨(congrArg (fun z => Outcome.returned (some (Value.int z))) (show (bI r) = (bI (saB n b many w)) from congrArg bI (by
              by_cases hr8 : r = true
              · rw [hr8]; exact (decide_eq_true ⟨(hr9.mp hr8).1, fun x hx => (hr9.mp hr8).2 x (by first | (exfalso; rw [hr8] at c_22; exact absurd c_22 (by decide)) | (have := hj hr8; omega) | omega)⟩).symm
              · rw [no_of hr8]; exact (decide_eq_false (fun z => hr8 (hr9.mpr ⟨z.1, fun x hx => z.2 x (by omega)⟩))).symm))), ht⟩) (fun q h => nomatch h) dX6_isMade_61
        · refine lv_iload_n hx hb dX6_isMade_25 rfl (lv_at hl 3 rfl) ?_
          refine lv_aload_n hx hb dX6_isMade_26 rfl (lv_at hl 0 rfl) ?_
          refine va_get (D := D) (ci := 3) (v := .int (nI many)) (C := RX6) (T := TX6) (N := 6) hx hb hts hi_X6 hown hK hP 0 rfl rfl 3 (by decide) (hts _ (List.mem_of_getElem? (i := 1) rfl)) (fun _ h9 => h9) rfl dX6_isMade_27 ?_
          refine ln_icmp_ge (tgt := 60) hx hb ⟨by omega, by omega⟩ dX6_isMade_30 (by decide) (fun c_30 => ?_) (fun c_30 => ?_)
          · refine lv_iload_n hx hb dX6_isMade_60 rfl (lv_at hl 2 rfl) ?_
            exact W.zret (v := (bI r)) (ty := .boolean) hx hb hr (zr_bI _) (fun t ht hW => ⟨(congrArg (fun z => Outcome.returned (some (Value.int z))) (show (bI r) = (bI (saB n b many w)) from congrArg bI (by
                by_cases hr8 : r = true
                · rw [hr8]; exact (decide_eq_true ⟨(hr9.mp hr8).1, fun x hx => (hr9.mp hr8).2 x (by first | (exfalso; rw [hr8] at c_22; exact absurd c_22 (by decide)) | (have := hj hr8; omega) | omega)⟩).symm
                · rw [no_of hr8]; exact (decide_eq_false (fun z => hr8 (hr9.mpr ⟨z.1, fun x hx => z.2 x (by omega)⟩))).symm))), ht⟩) (fun q h => nomatch h) dX6_isMade_61
          · refine lv_aload_n hx hb dX6_isMade_33 rfl (lv_at hl 0 rfl) ?_
            refine va_get (D := D) (ci := 3) (v := .ref mm) (C := RX6) (T := TX6) (N := 6) hx hb hts hi_X6 hown hK hP 0 rfl rfl 2 (by decide) (hts _ (List.mem_of_getElem? (i := 3) rfl)) (fun _ h9 => h9) rfl dX6_isMade_34 ?_
            have h8 := hr9.mp (bI_nz.mp c_22)
            refine lv_iload_n hx hb dX6_isMade_37 rfl (lv_at hl 3 rfl) ?_
            refine ln_iald hx hb hK hP 3 0 rfl rfl ⟨by omega, by omega⟩ dX6_isMade_38 ?_
            rw [show fm j = nI (w j) from (hMD.2 j (by omega)).1]
            refine lv_aload_n hx hb dX6_isMade_39 rfl (lv_at hl 0 rfl) ?_
            refine lv_iload_n hx hb dX6_isMade_40 rfl (lv_at hl 1 rfl) ?_
            refine lv_iload_n hx hb dX6_isMade_41 rfl (lv_at hl 3 rfl) ?_
            refine ro_V (As := [.int (nI i), .int (nI j)]) (rest := [.int (nI (w j))]) (wc := [(m0, .inr (3, [.ref mb, .ref ml, .ref mm, .int (nI many), .int th, .ref mk])), (mb, .inl (T 0, 1920, .inl fb))]) (r := .int (nI (b j))) ⟨hx, hb, hml, hown, hts⟩ (c_X6_atB l D T g m0 mb ml mm mk many th fb i j n b hi hrw (by omega)) (cwV 2 hts gX6_isMade_X6_at rfl rfl rfl (by decide +kernel) ⟨Nat.le_of_ble_eq_true rfl, Nat.le_of_ble_eq_true rfl⟩) (va_recv hK hP (ci := 3) (q0 := 0) rfl rfl) hP hK hG hS [0, 2] rfl ⟨Nat.zero_le _, Nat.zero_le _⟩ rfl hl.1 (Nat.le_of_ble_eq_true rfl) dX6_isMade_42 rfl ?_
            have hx1 := hb0 j (by omega)
            have hx2 := (hMD.2 j (by omega)).2
            refine ln_icmp_ne (tgt := 52) hx hb ⟨by omega, by omega⟩ dX6_isMade_45 (by decide) (fun c_45 => ?_) (fun c_45 => ?_)
            · refine lv_iconst (v := (nI 0)) hx hb dX6_isMade_52 (by decide +kernel) ?_
              rw [show nI 0 = bI false from rfl]
              refine lv_istore_n (lv' := [(2, .int (bI false)), (0, .ref m0), (1, .int (nI i)), (3, .int (nI j))]) hx hb dX6_isMade_53 rfl hl (by decide) rfl (fun ls hl => ?_)
              refine lv_iinc (v := (nI (j + 1))) (lv' := [(3, .int (nI (j + 1))), (2, .int (bI false)), (0, .ref m0), (1, .int (nI i))]) hx hb dX6_isMade_54 hl (k := 3) rfl (ni_inc1 _) (by decide) rfl (fun ls hl => ?_)
              refine lv_goto (tgt := 21) hx hb dX6_isMade_57 (by decide) ?_
              exact ih_21 (j + 1) false (fun _ => by omega) (by
                    have h9 := hr9.mp (bI_nz.mp c_22)
                    first | exact ⟨fun _ => ⟨h9.1, fun x hx => by
                      by_cases e9 : x = j
                      · subst e9; exact c_45.symm
                      · exact h9.2 x (by omega)⟩, fun _ => rfl⟩ | exact ⟨(fun z => by cases z), fun z => absurd (z.2 j (Nat.lt_succ_self _)).symm c_45⟩) (by omega) (by omega) ls (lv_sub hl [2, 3, 1, 0] rfl)
            · refine lv_iconst (v := (nI 1)) hx hb dX6_isMade_48 (by decide +kernel) ?_
              refine lv_goto (tgt := 53) hx hb dX6_isMade_49 (by decide) ?_
              rw [show nI 1 = bI true from rfl]
              refine lv_istore_n (lv' := [(2, .int (bI true)), (0, .ref m0), (1, .int (nI i)), (3, .int (nI j))]) hx hb dX6_isMade_53 rfl hl (by decide) rfl (fun ls hl => ?_)
              refine lv_iinc (v := (nI (j + 1))) (lv' := [(3, .int (nI (j + 1))), (2, .int (bI true)), (0, .ref m0), (1, .int (nI i))]) hx hb dX6_isMade_54 hl (k := 3) rfl (ni_inc1 _) (by decide) rfl (fun ls hl => ?_)
              refine lv_goto (tgt := 21) hx hb dX6_isMade_57 (by decide) ?_
              exact ih_21 (j + 1) true (fun _ => by omega) (by
                    have h9 := hr9.mp (bI_nz.mp c_22)
                    first | exact ⟨fun _ => ⟨h9.1, fun x hx => by
                      by_cases e9 : x = j
                      · subst e9; exact c_45.symm
                      · exact h9.2 x (by omega)⟩, fun _ => rfl⟩ | exact ⟨(fun z => by cases z), fun z => absurd (z.2 j (Nat.lt_succ_self _)).symm c_45⟩) (by omega) (by omega) ls (lv_sub hl [2, 3, 1, 0] rfl)
    exact K1 _ 0 false (fun _ => Nat.zero_le _) (by first | exact ⟨fun _ => ⟨c_10.symm, fun x hx => absurd hx (Nat.not_lt_zero _)⟩, fun _ => rfl⟩ | exact ⟨(fun z => by cases z), fun z => absurd z.1.symm c_10⟩) (Nat.zero_le _) (Nat.lt_succ_self _) ls (lv_sub hl [2, 3, 1, 0] rfl)
  · refine lv_iconst (v := (nI 1)) hx hb dX6_isMade_13 (by decide +kernel) ?_
    refine lv_goto (tgt := 18) hx hb dX6_isMade_14 (by decide) ?_
    rw [show nI 1 = bI true from rfl]
    refine lv_istore_n (lv' := [(2, .int (bI true)), (0, .ref m0), (1, .int (nI i))]) hx hb dX6_isMade_18 rfl hl (by decide) rfl (fun ls hl => ?_)
    refine lv_iconst (v := (nI 0)) hx hb dX6_isMade_19 (by decide +kernel) ?_
    refine lv_istore_n (lv' := [(3, .int (nI 0)), (2, .int (bI true)), (0, .ref m0), (1, .int (nI i))]) hx hb dX6_isMade_20 rfl hl (by decide) rfl (fun ls hl => ?_)
    have K2 : ∀ (N9 : Nat) (j : Nat) (r : Bool), (r = true → j ≤ many) → (r = true ↔ (n = many ∧ ∀ x, x < j → b x = w x)) → (j ≤ many) → many - j < N9 → ∀ ls : Array Slot, lv_has ls 4 [(0, .ref m0), (1, .int (nI i)), (2, .int (bI r)), (3, .int (nI j))] → W p l e (headSpec wsX6_isMade ({ frames := 1, cells := 0, slots := 0, locals := 22 } : Room)).room s m ([.ref m0, .int (nI i)] : List Value).toArray below meth c s.heap [] 0 0 (MQ below (k2_QcV (.int (bI (saB n b many w)))) ([.ref m0, .int (nI i)] : List Value).toArray s 0 0 (fun _ => False)) (F0 m 21 ls []) := by
      intro N9
      induction N9 with
      | zero => intro j r hj hr9 hj2 h9; exact absurd h9 (Nat.not_lt_zero _)
      | succ N9 ih_21 =>
        intro j r hj hr9 hj2 h9 ls hl
        refine lv_iload_n hx hb dX6_isMade_21 rfl (lv_at hl 2 rfl) ?_
        refine lv_if_eq (tgt := 60) hx hb dX6_isMade_22 (by decide) (fun c_22 => ?_) (fun c_22 => ?_)
        · refine lv_iload_n hx hb dX6_isMade_60 rfl (lv_at hl 2 rfl) ?_
          exact W.zret (v := (bI r)) (ty := .boolean) hx hb hr (zr_bI _) (fun t ht hW => ⟨(congrArg (fun z => Outcome.returned (some (Value.int z))) (show (bI r) = (bI (saB n b many w)) from congrArg bI (by
              by_cases hr8 : r = true
              · rw [hr8]; exact (decide_eq_true ⟨(hr9.mp hr8).1, fun x hx => (hr9.mp hr8).2 x (by first | (exfalso; rw [hr8] at c_22; exact absurd c_22 (by decide)) | (have := hj hr8; omega) | omega)⟩).symm
              · rw [no_of hr8]; exact (decide_eq_false (fun z => hr8 (hr9.mpr ⟨z.1, fun x hx => z.2 x (by omega)⟩))).symm))), ht⟩) (fun q h => nomatch h) dX6_isMade_61
        · refine lv_iload_n hx hb dX6_isMade_25 rfl (lv_at hl 3 rfl) ?_
          refine lv_aload_n hx hb dX6_isMade_26 rfl (lv_at hl 0 rfl) ?_
          refine va_get (D := D) (ci := 3) (v := .int (nI many)) (C := RX6) (T := TX6) (N := 6) hx hb hts hi_X6 hown hK hP 0 rfl rfl 3 (by decide) (hts _ (List.mem_of_getElem? (i := 1) rfl)) (fun _ h9 => h9) rfl dX6_isMade_27 ?_
          refine ln_icmp_ge (tgt := 60) hx hb ⟨by omega, by omega⟩ dX6_isMade_30 (by decide) (fun c_30 => ?_) (fun c_30 => ?_)
          · refine lv_iload_n hx hb dX6_isMade_60 rfl (lv_at hl 2 rfl) ?_
            exact W.zret (v := (bI r)) (ty := .boolean) hx hb hr (zr_bI _) (fun t ht hW => ⟨(congrArg (fun z => Outcome.returned (some (Value.int z))) (show (bI r) = (bI (saB n b many w)) from congrArg bI (by
                by_cases hr8 : r = true
                · rw [hr8]; exact (decide_eq_true ⟨(hr9.mp hr8).1, fun x hx => (hr9.mp hr8).2 x (by first | (exfalso; rw [hr8] at c_22; exact absurd c_22 (by decide)) | (have := hj hr8; omega) | omega)⟩).symm
                · rw [no_of hr8]; exact (decide_eq_false (fun z => hr8 (hr9.mpr ⟨z.1, fun x hx => z.2 x (by omega)⟩))).symm))), ht⟩) (fun q h => nomatch h) dX6_isMade_61
          · refine lv_aload_n hx hb dX6_isMade_33 rfl (lv_at hl 0 rfl) ?_
            refine va_get (D := D) (ci := 3) (v := .ref mm) (C := RX6) (T := TX6) (N := 6) hx hb hts hi_X6 hown hK hP 0 rfl rfl 2 (by decide) (hts _ (List.mem_of_getElem? (i := 3) rfl)) (fun _ h9 => h9) rfl dX6_isMade_34 ?_
            have h8 := hr9.mp (bI_nz.mp c_22)
            refine lv_iload_n hx hb dX6_isMade_37 rfl (lv_at hl 3 rfl) ?_
            refine ln_iald hx hb hK hP 3 0 rfl rfl ⟨by omega, by omega⟩ dX6_isMade_38 ?_
            rw [show fm j = nI (w j) from (hMD.2 j (by omega)).1]
            refine lv_aload_n hx hb dX6_isMade_39 rfl (lv_at hl 0 rfl) ?_
            refine lv_iload_n hx hb dX6_isMade_40 rfl (lv_at hl 1 rfl) ?_
            refine lv_iload_n hx hb dX6_isMade_41 rfl (lv_at hl 3 rfl) ?_
            refine ro_V (As := [.int (nI i), .int (nI j)]) (rest := [.int (nI (w j))]) (wc := [(m0, .inr (3, [.ref mb, .ref ml, .ref mm, .int (nI many), .int th, .ref mk])), (mb, .inl (T 0, 1920, .inl fb))]) (r := .int (nI (b j))) ⟨hx, hb, hml, hown, hts⟩ (c_X6_atB l D T g m0 mb ml mm mk many th fb i j n b hi hrw (by omega)) (cwV 2 hts gX6_isMade_X6_at rfl rfl rfl (by decide +kernel) ⟨Nat.le_of_ble_eq_true rfl, Nat.le_of_ble_eq_true rfl⟩) (va_recv hK hP (ci := 3) (q0 := 0) rfl rfl) hP hK hG hS [0, 2] rfl ⟨Nat.zero_le _, Nat.zero_le _⟩ rfl hl.1 (Nat.le_of_ble_eq_true rfl) dX6_isMade_42 rfl ?_
            have hx1 := hb0 j (by omega)
            have hx2 := (hMD.2 j (by omega)).2
            refine ln_icmp_ne (tgt := 52) hx hb ⟨by omega, by omega⟩ dX6_isMade_45 (by decide) (fun c_45 => ?_) (fun c_45 => ?_)
            · refine lv_iconst (v := (nI 0)) hx hb dX6_isMade_52 (by decide +kernel) ?_
              rw [show nI 0 = bI false from rfl]
              refine lv_istore_n (lv' := [(2, .int (bI false)), (0, .ref m0), (1, .int (nI i)), (3, .int (nI j))]) hx hb dX6_isMade_53 rfl hl (by decide) rfl (fun ls hl => ?_)
              refine lv_iinc (v := (nI (j + 1))) (lv' := [(3, .int (nI (j + 1))), (2, .int (bI false)), (0, .ref m0), (1, .int (nI i))]) hx hb dX6_isMade_54 hl (k := 3) rfl (ni_inc1 _) (by decide) rfl (fun ls hl => ?_)
              refine lv_goto (tgt := 21) hx hb dX6_isMade_57 (by decide) ?_
              exact ih_21 (j + 1) false (fun _ => by omega) (by
                    have h9 := hr9.mp (bI_nz.mp c_22)
                    first | exact ⟨fun _ => ⟨h9.1, fun x hx => by
                      by_cases e9 : x = j
                      · subst e9; exact c_45.symm
                      · exact h9.2 x (by omega)⟩, fun _ => rfl⟩ | exact ⟨(fun z => by cases z), fun z => absurd (z.2 j (Nat.lt_succ_self _)).symm c_45⟩) (by omega) (by omega) ls (lv_sub hl [2, 3, 1, 0] rfl)
            · refine lv_iconst (v := (nI 1)) hx hb dX6_isMade_48 (by decide +kernel) ?_
              refine lv_goto (tgt := 53) hx hb dX6_isMade_49 (by decide) ?_
              rw [show nI 1 = bI true from rfl]
              refine lv_istore_n (lv' := [(2, .int (bI true)), (0, .ref m0), (1, .int (nI i)), (3, .int (nI j))]) hx hb dX6_isMade_53 rfl hl (by decide) rfl (fun ls hl => ?_)
              refine lv_iinc (v := (nI (j + 1))) (lv' := [(3, .int (nI (j + 1))), (2, .int (bI true)), (0, .ref m0), (1, .int (nI i))]) hx hb dX6_isMade_54 hl (k := 3) rfl (ni_inc1 _) (by decide) rfl (fun ls hl => ?_)
              refine lv_goto (tgt := 21) hx hb dX6_isMade_57 (by decide) ?_
              exact ih_21 (j + 1) true (fun _ => by omega) (by
                    have h9 := hr9.mp (bI_nz.mp c_22)
                    first | exact ⟨fun _ => ⟨h9.1, fun x hx => by
                      by_cases e9 : x = j
                      · subst e9; exact c_45.symm
                      · exact h9.2 x (by omega)⟩, fun _ => rfl⟩ | exact ⟨(fun z => by cases z), fun z => absurd (z.2 j (Nat.lt_succ_self _)).symm c_45⟩) (by omega) (by omega) ls (lv_sub hl [2, 3, 1, 0] rfl)
    exact K2 _ 0 true (fun _ => Nat.zero_le _) (by first | exact ⟨fun _ => ⟨c_10.symm, fun x hx => absurd hx (Nat.not_lt_zero _)⟩, fun _ => rfl⟩ | exact ⟨(fun z => by cases z), fun z => absurd z.1.symm c_10⟩) (Nat.zero_le _) (Nat.lt_succ_self _) ls (lv_sub hl [2, 3, 1, 0] rfl)
set_option maxHeartbeats 4000000 in
set_option maxRecDepth 100000 in
/-- reads and writes again; the row stays -/
theorem c_X6_again (l : Launch) (D : va_G) (T : Nat → ClassId) (g : Nat → Nat) (sz : Nat) (m0 : Nat) (mb : Nat) (ml : Nat) (mm : Nat) (mk : Nat) (many : Nat) (th : Int32) (fb : Nat → Int32) (fl : Nat → Int32) (fm : Nat → Int32) (fk : Nat → Int32) (N : Nat → Nat) (Bw : Nat → Nat → Nat) (i : Nat) (hi : i < 6) (hMR : MR fl fb N Bw) (k : Nat) (hk : k < 3) (L9 : Nat) (hu : untB k (N i) (Bw i) = false) (hL9 : L9 = lF k (N i) (Bw i) * 6 / 8) (fl9 : Nat) (hfl : fl9 < 2) : MU l yX6_again wsX6_again ({ frames := 3, cells := 0, slots := 0, locals := 73 } : Room) D T g [.ref m0, .int (nI i), .int (nI k), .int (nI L9), .int (nI fl9)] [(m0, .inr (3, [.ref mb, .ref ml, .ref mm, .int (nI many), .int th, .ref mk])), (mb, .inl (T 0, 1920, .inl fb)), (ml, .inl (T 0, 6, .inl fl)), (mm, .inl (T 0, 600, .inl fm)), (mk, .inl (T 0, 320, .inl fk))] sz (fun u : (Nat → Int32) × (Nat → Int32) × (Nat → Int32) × (Nat → Int32) => none) (fun u : (Nat → Int32) × (Nat → Int32) × (Nat → Int32) × (Nat → Int32) => MR u.1 u.2.1 N Bw ∧ MD u.2.2.1 (lnN k L9 fl9) (wrA k L9 (outB (lwF k (N i) (Bw i))))) (fun u : (Nat → Int32) × (Nat → Int32) × (Nat → Int32) × (Nat → Int32) => [(m0, .inr (3, [.ref mb, .ref ml, .ref mm, .int (nI (lnN k L9 fl9)), .int th, .ref mk])), (mb, .inl (T 0, 1920, .inl u.2.1)), (ml, .inl (T 0, 6, .inl u.1)), (mm, .inl (T 0, 600, .inl u.2.2.1)), (mk, .inl (T 0, 320, .inl u.2.2.2))]) 0 0 := by
  refine Met.ofW (cc := cX6_again) (maxL := 7) (ret := none) (by decide) rfl ?_
  intro p e s m args below meth c s₁ B hml hv
  obtain ⟨rfl, hsz, hP, hK, hD0, hG⟩ := hv
  have hx := B.exec
  have hb := B.bytes
  have hr := B.returns
  have hts := atoms_spec (ws := wsX6_again) B.pre
  have hown : s.vm.findClass RX6 = some m.cls := findClass_of_methodNamed B.named
  have hlocks := B.notSynchronized
  have hi_X6 : ∀ w ∈ wsX60, w ∈ wsX6_again := by decide +kernel
  subst hsz
  have hD := hD0.self (sz := s.heap.size)
  generalize hAe : va_A [(m0, .inr (3, [.ref mb, .ref ml, .ref mm, .int (nI many), .int th, .ref mk])), (mb, .inl (T 0, 1920, .inl fb)), (ml, .inl (T 0, 6, .inl fl)), (mm, .inl (T 0, 600, .inl fm)), (mk, .inl (T 0, 320, .inl fk))] s.heap.size = A at hD hG ⊢
  have hA : ∀ q : Nat, s.heap.size ≤ q → A q := fun q h => by rw [← hAe]; exact Or.inr h
  have hS : va_S A s.heap s.heap [] := va_S.rf
  have hP : va_P D cls [(m0, .inr (3, [.ref mb, .ref ml, .ref mm, .int (nI many), .int th, .ref mk])), (mb, .inl (T 0, 1920, .inl fb)), (ml, .inl (T 0, 6, .inl fl)), (mm, .inl (T 0, 600, .inl fm)), (mk, .inl (T 0, 320, .inl fk))] s.heap := hP
  have hl := lv_entry ([.ref m0, .int (nI i), .int (nI k), .int (nI L9), .int (nI fl9)]) (n := 7) (Nat.le_of_ble_eq_true rfl)
  rw [lg_entry_eq]
  generalize (lg_sl ([.ref m0, .int (nI i), .int (nI k), .int (nI L9), .int (nI fl9)]) ++ List.replicate (7 - (lg_sl ([.ref m0, .int (nI i), .int (nI k), .int (nI L9), .int (nI fl9)])).length) Slot.unset).toArray = ls at hl ⊢
  have hl : lv_has ls 7 [(0, .ref m0), (1, .int (nI i)), (2, .int (nI k)), (3, .int (nI L9)), (4, .int (nI fl9))] := hl
  obtain ⟨n, hn9⟩ : ∃ n, n = N i := ⟨_, rfl⟩
  obtain ⟨b, hb9⟩ : ∃ b, b = Bw i := ⟨_, rfl⟩
  have hrow := hMR i hi
  rw [← hn9, ← hb9] at hrow hu hL9
  obtain ⟨hln, hrw⟩ := hrow
  have hn := hrw.1
  have hb0 : ∀ j, j < n → b j < 256 := fun j hj => (hrw.2 j hj).2
  have hlf : lF k n b ≤ n := Nat.le_trans (lF_le k n b) (fF_le n b)
  refine lv_aload_n hx hb dX6_again_0 rfl (lv_at hl 0 rfl) ?_
  refine va_get (D := D) (ci := 3) (v := .ref ml) (C := RX6) (T := TX6) (N := 6) hx hb hts hi_X6 hown hK hP 0 rfl rfl 1 (by decide) (hts _ (List.mem_of_getElem? (i := 1) rfl)) (fun _ h9 => h9) rfl dX6_again_1 ?_
  refine lv_iload_n hx hb dX6_again_4 rfl (lv_at hl 1 rfl) ?_
  refine ln_iald hx hb hK hP 2 0 rfl rfl ⟨by omega, by omega⟩ dX6_again_5 ?_
  rw [show fl i = nI n from hln]
  refine lv_istore (lv' := [(5, .int (nI n)), (0, .ref m0), (1, .int (nI i)), (2, .int (nI k)), (3, .int (nI L9)), (4, .int (nI fl9))]) hx hb dX6_again_6 hl (by decide) rfl (fun ls hl => ?_)
  refine lv_iconst (v := (nI 0)) hx hb dX6_again_8 (by decide +kernel) ?_
  refine lv_istore (lv' := [(6, .int (nI 0)), (5, .int (nI n)), (0, .ref m0), (1, .int (nI i)), (2, .int (nI k)), (3, .int (nI L9)), (4, .int (nI fl9))]) hx hb dX6_again_9 hl (by decide) rfl (fun ls hl => ?_)
  have K1 : ∀ (N9 : Nat) (j : Nat) (K : Nat → Int32), (j ≤ n) → (∀ x, x < j → K x = fb (320 * i + x)) → n - j < N9 → ∀ (H : Heap) (locs : List Loc), va_P D cls [(m0, .inr (3, [.ref mb, .ref ml, .ref mm, .int (nI many), .int th, .ref mk])), (mb, .inl (T 0, 1920, .inl fb)), (ml, .inl (T 0, 6, .inl fl)), (mm, .inl (T 0, 600, .inl fm)), (mk, .inl (T 0, 320, .inl K))] H → va_D A [(m0, .inr (3, [.ref mb, .ref ml, .ref mm, .int (nI many), .int th, .ref mk])), (mb, .inl (T 0, 1920, .inl fb)), (ml, .inl (T 0, 6, .inl fl)), (mm, .inl (T 0, 600, .inl fm)), (mk, .inl (T 0, 320, .inl K))] → va_S A s.heap H locs → ∀ ls : Array Slot, lv_has ls 7 [(0, .ref m0), (1, .int (nI i)), (2, .int (nI k)), (3, .int (nI L9)), (4, .int (nI fl9)), (5, .int (nI n)), (6, .int (nI j))] → W p l e (headSpec wsX6_again ({ frames := 3, cells := 0, slots := 0, locals := 73 } : Room)).room s m ([.ref m0, .int (nI i), .int (nI k), .int (nI L9), .int (nI fl9)] : List Value).toArray below meth c H locs 0 0 (MQ below (QM D T A (fun u : (Nat → Int32) × (Nat → Int32) × (Nat → Int32) × (Nat → Int32) => none) (fun u : (Nat → Int32) × (Nat → Int32) × (Nat → Int32) × (Nat → Int32) => MR u.1 u.2.1 N Bw ∧ MD u.2.2.1 (lnN k L9 fl9) (wrA k L9 (outB (lwF k (N i) (Bw i))))) (fun u : (Nat → Int32) × (Nat → Int32) × (Nat → Int32) × (Nat → Int32) => [(m0, .inr (3, [.ref mb, .ref ml, .ref mm, .int (nI (lnN k L9 fl9)), .int th, .ref mk])), (mb, .inl (T 0, 1920, .inl u.2.1)), (ml, .inl (T 0, 6, .inl u.1)), (mm, .inl (T 0, 600, .inl u.2.2.1)), (mk, .inl (T 0, 320, .inl u.2.2.2))])) ([.ref m0, .int (nI i), .int (nI k), .int (nI L9), .int (nI fl9)] : List Value).toArray s 0 0 A) (F0 m 11 ls []) := by
    intro N9
    induction N9 with
    | zero => intro j K hj hKk h9; exact absurd h9 (Nat.not_lt_zero _)
    | succ N9 ih_11 =>
      intro j K hj hKk h9 H locs hP hD hS ls hl
      refine lv_iload hx hb dX6_again_11 (lv_at hl 6 rfl) ?_
      refine lv_iload hx hb dX6_again_13 (lv_at hl 5 rfl) ?_
      refine ln_icmp_ge (tgt := 38) hx hb ⟨by omega, by omega⟩ dX6_again_15 (by decide) (fun c_15 => ?_) (fun c_15 => ?_)
      · have hKk : ∀ x, x < n → K x = fb (320 * i + x) := fun x hx => hKk x (by omega)
        refine lv_aload_n hx hb dX6_again_38 rfl (lv_at hl 0 rfl) ?_
        refine lv_iload_n hx hb dX6_again_39 rfl (lv_at hl 1 rfl) ?_
        refine lv_iload_n hx hb dX6_again_40 rfl (lv_at hl 2 rfl) ?_
        refine lv_iload_n hx hb dX6_again_41 rfl (lv_at hl 3 rfl) ?_
        refine mu_V (As := [.int (nI i), .int (nI k), .int (nI L9)]) (rest := []) (wc := [(m0, .inr (3, [.ref mb, .ref ml, .ref mm, .int (nI many), .int th, .ref mk])), (ml, .inl (T 0, 6, .inl fl)), (mb, .inl (T 0, 1920, .inl fb)), (mm, .inl (T 0, 600, .inl fm))]) (wr := [(mk, .inl (T 0, 320, .inl K))]) ⟨hx, hb, hml, hown, hts⟩ (c_X6_reads l D T g H.size m0 mb ml mm mk many th fb fl fm i n b hi (hln) (hrw) k hk L9 (hu) (hL9)) (cwV 3 hts gX6_again_X6_reads rfl rfl rfl (by decide +kernel) ⟨Nat.le_of_ble_eq_true rfl, Nat.le_of_ble_eq_true rfl⟩) (va_recv hK hP (ci := 3) (q0 := 0) rfl rfl) hP hD hK hG hS hA [0, 2, 1, 3] [4] rfl (by decide) rfl (by decide) (by decide) ⟨Nat.le_of_ble_eq_true rfl, Nat.le_of_ble_eq_true rfl⟩ rfl hl.1 (Nat.le_of_ble_eq_true rfl) dX6_again_42 rfl (fun u H locs hq3 hP hD hS => ?_)
        obtain ⟨F_2, hu9⟩ : ∃ z, z = u := ⟨_, rfl⟩
        subst hu9
        have hP : va_P D cls [(mk, .inl (T 0, 320, .inl K)), (m0, .inr (3, [.ref mb, .ref ml, .ref mm, .int (nI L9), .int th, .ref mk])), (ml, .inl (T 0, 6, .inl fl)), (mb, .inl (T 0, 1920, .inl fb)), (mm, .inl (T 0, 600, .inl F_2))] H := hP
        have hD : va_D A [(mk, .inl (T 0, 320, .inl K)), (m0, .inr (3, [.ref mb, .ref ml, .ref mm, .int (nI L9), .int th, .ref mk])), (ml, .inl (T 0, 6, .inl fl)), (mb, .inl (T 0, 1920, .inl fb)), (mm, .inl (T 0, 600, .inl F_2))] := hD
        have hp1 : MD F_2 L9 (outB (lwF k n b)) := hq3
        refine W.eq (g2 := F0 m 45 ls []) rfl ?_
        refine lv_aload_n hx hb dX6_again_45 rfl (lv_at hl 0 rfl) ?_
        refine lv_iload_n hx hb dX6_again_46 rfl (lv_at hl 1 rfl) ?_
        have hL3 : L9 ≤ 320 := by omega
        refine mu_V (As := [.int (nI i)]) (rest := []) (wc := [(m0, .inr (3, [.ref mb, .ref ml, .ref mm, .int (nI L9), .int th, .ref mk])), (mb, .inl (T 0, 1920, .inl fb)), (ml, .inl (T 0, 6, .inl fl)), (mm, .inl (T 0, 600, .inl F_2))]) (wr := [(mk, .inl (T 0, 320, .inl K))]) ⟨hx, hb, hml, hown, hts⟩ (c_X6_becomes l D T g H.size m0 mb ml mm mk L9 th fb fl F_2 i (outB (lwF k n b)) hi (hp1) (by omega)) (cwV 1 hts gX6_again_X6_becomes rfl rfl rfl (by decide +kernel) ⟨Nat.le_of_ble_eq_true rfl, Nat.le_of_ble_eq_true rfl⟩) (va_recv hK hP (ci := 3) (q0 := 1) rfl rfl) hP hD hK hG hS hA [1, 3, 2, 4] [0] rfl (by decide) rfl (by decide) (by decide) ⟨Nat.le_of_ble_eq_true rfl, Nat.le_of_ble_eq_true rfl⟩ rfl hl.1 (Nat.le_of_ble_eq_true rfl) dX6_again_47 rfl (fun u H locs hq5 hP hD hS => ?_)
        obtain ⟨F_4, hu9⟩ : ∃ z, z = u := ⟨_, rfl⟩
        subst hu9
        have hP : va_P D cls [(mk, .inl (T 0, 320, .inl K)), (m0, .inr (3, [.ref mb, .ref ml, .ref mm, .int (nI L9), .int th, .ref mk])), (mb, .inl (T 0, 1920, .inl F_4)), (ml, .inl (T 0, 6, .inl (upd fl i (nI L9)))), (mm, .inl (T 0, 600, .inl F_2))] H := hP
        have hD : va_D A [(mk, .inl (T 0, 320, .inl K)), (m0, .inr (3, [.ref mb, .ref ml, .ref mm, .int (nI L9), .int th, .ref mk])), (mb, .inl (T 0, 1920, .inl F_4)), (ml, .inl (T 0, 6, .inl (upd fl i (nI L9)))), (mm, .inl (T 0, 600, .inl F_2))] := hD
        have hp2 : RW F_4 i L9 (outB (lwF k n b)) ∧ ∀ q, q < 320 * i ∨ 320 * i + 320 ≤ q → F_4 q = fb q := hq5
        refine W.eq (g2 := F0 m 50 ls [.int (nI L9)]) rfl ?_
        refine lv_pop hx hb dX6_again_50 rfl ?_
        refine lv_aload_n hx hb dX6_again_51 rfl (lv_at hl 0 rfl) ?_
        refine lv_iload_n hx hb dX6_again_52 rfl (lv_at hl 1 rfl) ?_
        refine lv_iload_n hx hb dX6_again_53 rfl (lv_at hl 2 rfl) ?_
        refine lv_iload hx hb dX6_again_54 (lv_at hl 4 rfl) ?_
        refine mu_V (As := [.int (nI i), .int (nI k), .int (nI fl9)]) (rest := []) (wc := [(m0, .inr (3, [.ref mb, .ref ml, .ref mm, .int (nI L9), .int th, .ref mk])), (ml, .inl (T 0, 6, .inl (upd fl i (nI L9)))), (mb, .inl (T 0, 1920, .inl F_4)), (mm, .inl (T 0, 600, .inl F_2))]) (wr := [(mk, .inl (T 0, 320, .inl K))]) ⟨hx, hb, hml, hown, hts⟩ (c_X6_writes l D T g H.size m0 mb ml mm mk L9 th F_4 (upd fl i (nI L9)) F_2 i L9 (outB (lwF k n b)) hi (pk_us) (hp2.1) k hk fl9 hfl) (cwV 3 hts gX6_again_X6_writes rfl rfl rfl (by decide +kernel) ⟨Nat.le_of_ble_eq_true rfl, Nat.le_of_ble_eq_true rfl⟩) (va_recv hK hP (ci := 3) (q0 := 1) rfl rfl) hP hD hK hG hS hA [1, 3, 2, 4] [0] rfl (by decide) rfl (by decide) (by decide) ⟨Nat.le_of_ble_eq_true rfl, Nat.le_of_ble_eq_true rfl⟩ rfl hl.1 (Nat.le_of_ble_eq_true rfl) dX6_again_56 rfl (fun u H locs hq7 hP hD hS => ?_)
        obtain ⟨F_6, hu9⟩ : ∃ z, z = u := ⟨_, rfl⟩
        subst hu9
        have hP : va_P D cls [(mk, .inl (T 0, 320, .inl K)), (m0, .inr (3, [.ref mb, .ref ml, .ref mm, .int (nI (lnN k L9 fl9)), .int th, .ref mk])), (ml, .inl (T 0, 6, .inl (upd fl i (nI L9)))), (mb, .inl (T 0, 1920, .inl F_4)), (mm, .inl (T 0, 600, .inl F_6))] H := hP
        have hD : va_D A [(mk, .inl (T 0, 320, .inl K)), (m0, .inr (3, [.ref mb, .ref ml, .ref mm, .int (nI (lnN k L9 fl9)), .int th, .ref mk])), (ml, .inl (T 0, 6, .inl (upd fl i (nI L9)))), (mb, .inl (T 0, 1920, .inl F_4)), (mm, .inl (T 0, 600, .inl F_6))] := hD
        have hp3 : MD F_6 (lnN k L9 fl9) (wrA k L9 (outB (lwF k n b))) := hq7
        refine W.eq (g2 := F0 m 59 ls []) rfl ?_
        refine lv_iconst (v := (nI 0)) hx hb dX6_again_59 (by decide +kernel) ?_
        refine lv_istore (lv' := [(6, .int (nI 0)), (0, .ref m0), (1, .int (nI i)), (2, .int (nI k)), (3, .int (nI L9)), (4, .int (nI fl9)), (5, .int (nI n))]) hx hb dX6_again_60 hl (by decide) rfl (fun ls hl => ?_)
        have K8 : ∀ (N9 : Nat) (j : Nat) (G : Nat → Int32), (j ≤ n) → (∀ q, 320 * i ≤ q → q < 320 * i + j → G q = fb q) → (∀ q, q < 320 * i ∨ 320 * i + 320 ≤ q → G q = fb q) → n - j < N9 → ∀ (H : Heap) (locs : List Loc), va_P D cls [(mk, .inl (T 0, 320, .inl K)), (m0, .inr (3, [.ref mb, .ref ml, .ref mm, .int (nI (lnN k L9 fl9)), .int th, .ref mk])), (ml, .inl (T 0, 6, .inl (upd fl i (nI L9)))), (mb, .inl (T 0, 1920, .inl G)), (mm, .inl (T 0, 600, .inl F_6))] H → va_D A [(mk, .inl (T 0, 320, .inl K)), (m0, .inr (3, [.ref mb, .ref ml, .ref mm, .int (nI (lnN k L9 fl9)), .int th, .ref mk])), (ml, .inl (T 0, 6, .inl (upd fl i (nI L9)))), (mb, .inl (T 0, 1920, .inl G)), (mm, .inl (T 0, 600, .inl F_6))] → va_S A s.heap H locs → ∀ ls : Array Slot, lv_has ls 7 [(0, .ref m0), (1, .int (nI i)), (2, .int (nI k)), (3, .int (nI L9)), (4, .int (nI fl9)), (5, .int (nI n)), (6, .int (nI j))] → W p l e (headSpec wsX6_again ({ frames := 3, cells := 0, slots := 0, locals := 73 } : Room)).room s m ([.ref m0, .int (nI i), .int (nI k), .int (nI L9), .int (nI fl9)] : List Value).toArray below meth c H locs 0 0 (MQ below (QM D T A (fun u : (Nat → Int32) × (Nat → Int32) × (Nat → Int32) × (Nat → Int32) => none) (fun u : (Nat → Int32) × (Nat → Int32) × (Nat → Int32) × (Nat → Int32) => MR u.1 u.2.1 N Bw ∧ MD u.2.2.1 (lnN k L9 fl9) (wrA k L9 (outB (lwF k (N i) (Bw i))))) (fun u : (Nat → Int32) × (Nat → Int32) × (Nat → Int32) × (Nat → Int32) => [(m0, .inr (3, [.ref mb, .ref ml, .ref mm, .int (nI (lnN k L9 fl9)), .int th, .ref mk])), (mb, .inl (T 0, 1920, .inl u.2.1)), (ml, .inl (T 0, 6, .inl u.1)), (mm, .inl (T 0, 600, .inl u.2.2.1)), (mk, .inl (T 0, 320, .inl u.2.2.2))])) ([.ref m0, .int (nI i), .int (nI k), .int (nI L9), .int (nI fl9)] : List Value).toArray s 0 0 A) (F0 m 62 ls []) := by
          intro N9
          induction N9 with
          | zero => intro j G hj hGk hGo h9; exact absurd h9 (Nat.not_lt_zero _)
          | succ N9 ih_62 =>
            intro j G hj hGk hGo h9 H locs hP hD hS ls hl
            refine lv_iload hx hb dX6_again_62 (lv_at hl 6 rfl) ?_
            refine lv_iload hx hb dX6_again_64 (lv_at hl 5 rfl) ?_
            refine ln_icmp_ge (tgt := 95) hx hb ⟨by omega, by omega⟩ dX6_again_66 (by decide) (fun c_66 => ?_) (fun c_66 => ?_)
            · refine lv_aload_n hx hb dX6_again_95 rfl (lv_at hl 0 rfl) ?_
              refine va_get (D := D) (ci := 3) (v := .ref ml) (C := RX6) (T := TX6) (N := 6) hx hb hts hi_X6 hown hK hP 1 rfl rfl 1 (by decide) (hts _ (List.mem_of_getElem? (i := 1) rfl)) (fun _ h9 => h9) rfl dX6_again_96 ?_
              refine lv_iload_n hx hb dX6_again_99 rfl (lv_at hl 1 rfl) ?_
              refine lv_iload hx hb dX6_again_100 (lv_at hl 5 rfl) ?_
              refine ln_iast hx hb hK hP hD hS 2 0 rfl rfl ⟨by omega, by omega⟩ dX6_again_102 (fun H locs hP hD hS => ?_)
              have hP : va_P D cls [(mk, .inl (T 0, 320, .inl K)), (m0, .inr (3, [.ref mb, .ref ml, .ref mm, .int (nI (lnN k L9 fl9)), .int th, .ref mk])), (ml, .inl (T 0, 6, .inl (upd (upd fl i (nI L9)) i (nI n)))), (mb, .inl (T 0, 1920, .inl G)), (mm, .inl (T 0, 600, .inl F_6))] H := hP
              have hD : va_D A [(mk, .inl (T 0, 320, .inl K)), (m0, .inr (3, [.ref mb, .ref ml, .ref mm, .int (nI (lnN k L9 fl9)), .int th, .ref mk])), (ml, .inl (T 0, 6, .inl (upd (upd fl i (nI L9)) i (nI n)))), (mb, .inl (T 0, 1920, .inl G)), (mm, .inl (T 0, 600, .inl F_6))] := hD
              have hP9 := hP.sub (ws' := [(m0, .inr (3, [.ref mb, .ref ml, .ref mm, .int (nI (lnN k L9 fl9)), .int th, .ref mk])), (mb, .inl (T 0, 1920, .inl G)), (ml, .inl (T 0, 6, .inl (upd (upd fl i (nI L9)) i (nI n)))), (mm, .inl (T 0, 600, .inl F_6)), (mk, .inl (T 0, 320, .inl K))]) [1, 3, 2, 4, 0] rfl
              have hD9 := hD.sub (ws' := [(m0, .inr (3, [.ref mb, .ref ml, .ref mm, .int (nI (lnN k L9 fl9)), .int th, .ref mk])), (mb, .inl (T 0, 1920, .inl G)), (ml, .inl (T 0, 6, .inl (upd (upd fl i (nI L9)) i (nI n)))), (mm, .inl (T 0, 600, .inl F_6)), (mk, .inl (T 0, 320, .inl K))]) [1, 3, 2, 4, 0] (by decide) rfl
              exact W.vret hx hb hr (fun t ht hW => ⟨⟨(upd (upd fl i (nI L9)) i (nI n), G, F_6, K), rfl, show MR (upd (upd fl i (nI L9)) i (nI n)) G N Bw ∧ MD F_6 (lnN k L9 fl9) (wrA k L9 (outB (lwF k (N i) (Bw i)))) from ⟨MR_back hMR hi hn9 hb9 (fun q h1 h2 => hGk q h1 (by omega)) hGo, by rw [← hn9, ← hb9]; exact hp3⟩, (by rw [ht]; exact hP9), va_K.moved hW.alike hK, hD9⟩, hS.F ht⟩) hS.2.2 dX6_again_103
            · refine lv_aload_n hx hb dX6_again_69 rfl (lv_at hl 0 rfl) ?_
              refine va_get (D := D) (ci := 3) (v := .ref mb) (C := RX6) (T := TX6) (N := 6) hx hb hts hi_X6 hown hK hP 1 rfl rfl 0 (by decide) (hts _ (List.mem_of_getElem? (i := 3) rfl)) (fun _ h9 => h9) rfl dX6_again_70 ?_
              refine lv_sipush (v := (nI 320)) hx hb dX6_again_73 (by decide +kernel) ?_
              refine lv_iload_n hx hb dX6_again_76 rfl (lv_at hl 1 rfl) ?_
              refine ln_mul hx hb dX6_again_77 ?_
              refine lv_iload hx hb dX6_again_78 (lv_at hl 6 rfl) ?_
              refine ln_add hx hb dX6_again_80 ?_
              refine lv_aload_n hx hb dX6_again_81 rfl (lv_at hl 0 rfl) ?_
              refine va_get (D := D) (ci := 3) (v := .ref mk) (C := RX6) (T := TX6) (N := 6) hx hb hts hi_X6 hown hK hP 1 rfl rfl 5 (by decide) (hts _ (List.mem_of_getElem? (i := 2) rfl)) (fun _ h9 => h9) rfl dX6_again_82 ?_
              refine lv_iload hx hb dX6_again_85 (lv_at hl 6 rfl) ?_
              refine ln_iald hx hb hK hP 0 0 rfl rfl ⟨by omega, by omega⟩ dX6_again_87 ?_
              refine ln_iast hx hb hK hP hD hS 3 0 rfl rfl ⟨by omega, by omega⟩ dX6_again_88 (fun H locs hP hD hS => ?_)
              have hP : va_P D cls [(mk, .inl (T 0, 320, .inl K)), (m0, .inr (3, [.ref mb, .ref ml, .ref mm, .int (nI (lnN k L9 fl9)), .int th, .ref mk])), (ml, .inl (T 0, 6, .inl (upd fl i (nI L9)))), (mb, .inl (T 0, 1920, .inl (upd G ((320 * i) + j) (K j)))), (mm, .inl (T 0, 600, .inl F_6))] H := hP
              have hD : va_D A [(mk, .inl (T 0, 320, .inl K)), (m0, .inr (3, [.ref mb, .ref ml, .ref mm, .int (nI (lnN k L9 fl9)), .int th, .ref mk])), (ml, .inl (T 0, 6, .inl (upd fl i (nI L9)))), (mb, .inl (T 0, 1920, .inl (upd G ((320 * i) + j) (K j)))), (mm, .inl (T 0, 600, .inl F_6))] := hD
              refine lv_iinc (v := (nI (j + 1))) (lv' := [(6, .int (nI (j + 1))), (0, .ref m0), (1, .int (nI i)), (2, .int (nI k)), (3, .int (nI L9)), (4, .int (nI fl9)), (5, .int (nI n))]) hx hb dX6_again_89 hl (k := 6) rfl (ni_inc1 _) (by decide) rfl (fun ls hl => ?_)
              refine lv_goto (tgt := 62) hx hb dX6_again_92 (by decide) ?_
              exact ih_62 (j + 1) (upd G ((320 * i) + j) (K j)) (by omega) (fun q h1 h2 => by
                    by_cases e9 : q = 320 * i + j
                    · subst e9; rw [pk_us]; exact hKk j (by omega)
                    · rw [pk_un e9]; exact hGk q h1 (by omega)) (fun q hq => (pk_un (by omega)).trans (hGo q hq)) (by omega) _ _ (hP.sub (ws' := [(mk, .inl (T 0, 320, .inl K)), (m0, .inr (3, [.ref mb, .ref ml, .ref mm, .int (nI (lnN k L9 fl9)), .int th, .ref mk])), (ml, .inl (T 0, 6, .inl (upd fl i (nI L9)))), (mb, .inl (T 0, 1920, .inl (upd G ((320 * i) + j) (K j)))), (mm, .inl (T 0, 600, .inl F_6))]) [0, 1, 2, 3, 4] rfl) (hD.sub (ws' := [(mk, .inl (T 0, 320, .inl K)), (m0, .inr (3, [.ref mb, .ref ml, .ref mm, .int (nI (lnN k L9 fl9)), .int th, .ref mk])), (ml, .inl (T 0, 6, .inl (upd fl i (nI L9)))), (mb, .inl (T 0, 1920, .inl (upd G ((320 * i) + j) (K j)))), (mm, .inl (T 0, 600, .inl F_6))]) [0, 1, 2, 3, 4] (by decide) rfl) hS ls (lv_sub hl [1, 2, 3, 4, 5, 6, 0] rfl)
        exact K8 _ 0 F_4 (by omega) (fun q h1 h2 => by omega) (hp2.2) (Nat.lt_succ_self _) H locs (hP.sub (ws' := [(mk, .inl (T 0, 320, .inl K)), (m0, .inr (3, [.ref mb, .ref ml, .ref mm, .int (nI (lnN k L9 fl9)), .int th, .ref mk])), (ml, .inl (T 0, 6, .inl (upd fl i (nI L9)))), (mb, .inl (T 0, 1920, .inl F_4)), (mm, .inl (T 0, 600, .inl F_6))]) [0, 1, 2, 3, 4] rfl) (hD.sub (ws' := [(mk, .inl (T 0, 320, .inl K)), (m0, .inr (3, [.ref mb, .ref ml, .ref mm, .int (nI (lnN k L9 fl9)), .int th, .ref mk])), (ml, .inl (T 0, 6, .inl (upd fl i (nI L9)))), (mb, .inl (T 0, 1920, .inl F_4)), (mm, .inl (T 0, 600, .inl F_6))]) [0, 1, 2, 3, 4] (by decide) rfl) hS ls (lv_sub hl [1, 2, 3, 4, 5, 6, 0] rfl)
      · refine lv_aload_n hx hb dX6_again_18 rfl (lv_at hl 0 rfl) ?_
        refine va_get (D := D) (ci := 3) (v := .ref mk) (C := RX6) (T := TX6) (N := 6) hx hb hts hi_X6 hown hK hP 0 rfl rfl 5 (by decide) (hts _ (List.mem_of_getElem? (i := 2) rfl)) (fun _ h9 => h9) rfl dX6_again_19 ?_
        refine lv_iload hx hb dX6_again_22 (lv_at hl 6 rfl) ?_
        refine lv_aload_n hx hb dX6_again_24 rfl (lv_at hl 0 rfl) ?_
        refine lv_iload_n hx hb dX6_again_25 rfl (lv_at hl 1 rfl) ?_
        refine lv_iload hx hb dX6_again_26 (lv_at hl 6 rfl) ?_
        refine ro_V (As := [.int (nI i), .int (nI j)]) (rest := [.int (nI j), .ref mk]) (wc := [(m0, .inr (3, [.ref mb, .ref ml, .ref mm, .int (nI many), .int th, .ref mk])), (mb, .inl (T 0, 1920, .inl fb))]) (r := .int (fb (320 * i + j))) ⟨hx, hb, hml, hown, hts⟩ (c_X6_at l D T g m0 mb ml mm mk many th fb i j (by omega)) (cwV 2 hts gX6_again_X6_at rfl rfl rfl (by decide +kernel) ⟨Nat.le_of_ble_eq_true rfl, Nat.le_of_ble_eq_true rfl⟩) (va_recv hK hP (ci := 3) (q0 := 0) rfl rfl) hP hK hG hS [0, 1] rfl ⟨Nat.zero_le _, Nat.zero_le _⟩ rfl hl.1 (Nat.le_of_ble_eq_true rfl) dX6_again_28 rfl ?_
        refine ln_iast hx hb hK hP hD hS 4 0 rfl rfl ⟨by omega, by omega⟩ dX6_again_31 (fun H locs hP hD hS => ?_)
        have hP : va_P D cls [(m0, .inr (3, [.ref mb, .ref ml, .ref mm, .int (nI many), .int th, .ref mk])), (mb, .inl (T 0, 1920, .inl fb)), (ml, .inl (T 0, 6, .inl fl)), (mm, .inl (T 0, 600, .inl fm)), (mk, .inl (T 0, 320, .inl (upd K j (fb (320 * i + j)))))] H := hP
        have hD : va_D A [(m0, .inr (3, [.ref mb, .ref ml, .ref mm, .int (nI many), .int th, .ref mk])), (mb, .inl (T 0, 1920, .inl fb)), (ml, .inl (T 0, 6, .inl fl)), (mm, .inl (T 0, 600, .inl fm)), (mk, .inl (T 0, 320, .inl (upd K j (fb (320 * i + j)))))] := hD
        refine lv_iinc (v := (nI (j + 1))) (lv' := [(6, .int (nI (j + 1))), (0, .ref m0), (1, .int (nI i)), (2, .int (nI k)), (3, .int (nI L9)), (4, .int (nI fl9)), (5, .int (nI n))]) hx hb dX6_again_32 hl (k := 6) rfl (ni_inc1 _) (by decide) rfl (fun ls hl => ?_)
        refine lv_goto (tgt := 11) hx hb dX6_again_35 (by decide) ?_
        exact ih_11 (j + 1) (upd K j (fb (320 * i + j))) (by omega) (fun x hx => by
              by_cases e9 : x = j
              · subst e9; exact pk_us
              · rw [pk_un e9]; exact hKk x (by omega)) (by omega) _ _ (hP.sub (ws' := [(m0, .inr (3, [.ref mb, .ref ml, .ref mm, .int (nI many), .int th, .ref mk])), (mb, .inl (T 0, 1920, .inl fb)), (ml, .inl (T 0, 6, .inl fl)), (mm, .inl (T 0, 600, .inl fm)), (mk, .inl (T 0, 320, .inl (upd K j (fb (320 * i + j)))))]) [0, 1, 2, 3, 4] rfl) (hD.sub (ws' := [(m0, .inr (3, [.ref mb, .ref ml, .ref mm, .int (nI many), .int th, .ref mk])), (mb, .inl (T 0, 1920, .inl fb)), (ml, .inl (T 0, 6, .inl fl)), (mm, .inl (T 0, 600, .inl fm)), (mk, .inl (T 0, 320, .inl (upd K j (fb (320 * i + j)))))]) [0, 1, 2, 3, 4] (by decide) rfl) hS ls (lv_sub hl [1, 2, 3, 4, 5, 6, 0] rfl)
  exact K1 _ 0 fk (by omega) (fun x hx => absurd hx (Nat.not_lt_zero _)) (Nat.lt_succ_self _) _ _ (hP.sub (ws' := [(m0, .inr (3, [.ref mb, .ref ml, .ref mm, .int (nI many), .int th, .ref mk])), (mb, .inl (T 0, 1920, .inl fb)), (ml, .inl (T 0, 6, .inl fl)), (mm, .inl (T 0, 600, .inl fm)), (mk, .inl (T 0, 320, .inl fk))]) [0, 1, 2, 3, 4] rfl) (hD.sub (ws' := [(m0, .inr (3, [.ref mb, .ref ml, .ref mm, .int (nI many), .int th, .ref mk])), (mb, .inl (T 0, 1920, .inl fb)), (ml, .inl (T 0, 6, .inl fl)), (mm, .inl (T 0, 600, .inl fm)), (mk, .inl (T 0, 320, .inl fk))]) [0, 1, 2, 3, 4] (by decide) rfl) hS ls (lv_sub hl [2, 3, 4, 5, 6, 1, 0] rfl)
