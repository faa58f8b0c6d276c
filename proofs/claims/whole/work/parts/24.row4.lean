set_option maxHeartbeats 4000000 in
set_option maxRecDepth 100000 in
/-- the other row, and filling -/
theorem c_X2_isBF (l : Launch) (D : va_G) (T : Nat → ClassId) (g : Nat → Nat) (h0 : Nat) (q0 : Nat) (f : Nat → Int32) (n : Nat) (h1 : Nat) (q1 : Nat) (f1 : Nat → Int32) (n1 : Nat) (b : Nat → Nat) (b1 : Nat → Nat) (hb9 : RB f n b) (hb8 : RB f1 n1 b1) (ht : n1 ≤ n ∧ (∀ j, j < n1 → b j = b1 j) ∧ ctN (eqB b) n - ctN (eqB b) n1 = n - n1) : RO l yX2_isBeginningAndFilling wsX2_isBeginningAndFilling ({ frames := 2, cells := 0, slots := 0, locals := 44 } : Room) D T g [.ref h0, .ref h1] [(h0, .inr (0, [.ref q0, .int (nI n)])), (q0, .inl (T 0, 440, .inl f)), (h1, .inr (0, [.ref q1, .int (nI n1)])), (q1, .inl (T 0, 440, .inl f1))] (.int (nI 1)) := by
  refine Met.ofW (cc := cX2_isBeginningAndFilling) (maxL := 2) (ret := (some .boolean)) (by decide) rfl ?_
  intro p e s m args below meth c s₁ B hml hv
  obtain ⟨rfl, hP, hK, hG⟩ := hv
  have hx := B.exec
  have hb := B.bytes
  have hr := B.returns
  have hts := atoms_spec (ws := wsX2_isBeginningAndFilling) B.pre
  have hown : s.vm.findClass RX2 = some m.cls := findClass_of_methodNamed B.named
  have hlocks := B.notSynchronized
  have hi_X2 : ∀ w ∈ wsX20, w ∈ wsX2_isBeginningAndFilling := by decide +kernel
  have hS : va_S (fun _ => False) s.heap s.heap [] := va_S.rf
  have hl := lv_entry ([.ref h0, .ref h1]) (n := 2) (Nat.le_of_ble_eq_true rfl)
  rw [lg_entry_eq]
  generalize (lg_sl ([.ref h0, .ref h1]) ++ List.replicate (2 - (lg_sl ([.ref h0, .ref h1])).length) Slot.unset).toArray = ls at hl ⊢
  have hl : lv_has ls 2 [(0, .ref h0), (1, .ref h1)] := hl
  have hn := hb9.1
  have hn1 := hb8.1
  have hc1 := ctN_le (eqB b) n
  refine lv_aload_n hx hb dX2_isBeginningAndFilling_0 rfl (lv_at hl 0 rfl) ?_
  refine lv_aload_n hx hb dX2_isBeginningAndFilling_1 rfl (lv_at hl 1 rfl) ?_
  refine ro_V (As := [.ref h1]) (rest := []) (wc := [(h0, .inr (0, [.ref q0, .int (nI n)])), (q0, .inl (T 0, 440, .inl f)), (h1, .inr (0, [.ref q1, .int (nI n1)])), (q1, .inl (T 0, 440, .inl f1))]) (r := .int (bI (bwB n b n1 b1))) ⟨hx, hb, hml, hown, hts⟩ (c_X2_beginsWith l D T g h0 q0 f n h1 q1 f1 n1 b b1 (hb9) (hb8)) (cwV 1 hts gX2_isBeginningAndFilling_X2_beginsWith rfl rfl rfl (by decide +kernel) ⟨Nat.le_of_ble_eq_true rfl, Nat.le_of_ble_eq_true rfl⟩) (va_recv hK hP (ci := 0) (q0 := 0) rfl rfl) hP hK hG hS [0, 1, 2, 3] rfl ⟨Nat.zero_le _, Nat.zero_le _⟩ rfl hl.1 (Nat.le_of_ble_eq_true rfl) dX2_isBeginningAndFilling_2 rfl ?_
  refine lv_if_eq (tgt := 32) hx hb dX2_isBeginningAndFilling_5 (by decide) (fun q9 => absurd q9 (bI_nz.mpr (decide_eq_true ⟨ht.1, ht.2.1⟩))) (fun _ => ?_)
  refine lv_aload_n hx hb dX2_isBeginningAndFilling_8 rfl (lv_at hl 0 rfl) ?_
  refine lv_aload_n hx hb dX2_isBeginningAndFilling_9 rfl (lv_at hl 1 rfl) ?_
  refine va_get (D := D) (ci := 0) (v := .int (nI n1)) (C := RX2) (T := TX2) (N := 2) hx hb hts hi_X2 hown hK hP 2 rfl rfl 1 (by decide) (hts _ (List.mem_of_getElem? (i := 1) rfl)) (fun _ h9 => h9) rfl dX2_isBeginningAndFilling_10 ?_
  refine ro_V (As := [.int (nI n1)]) (rest := []) (wc := [(h0, .inr (0, [.ref q0, .int (nI n)])), (q0, .inl (T 0, 440, .inl f))]) (r := .int (nI (ctN (eqB b) n - ctN (eqB b) n1))) ⟨hx, hb, hml, hown, hts⟩ (c_X2_countFilling l D T g h0 q0 f n n1 b (hb9) (ht.1)) (cwV 1 hts gX2_isBeginningAndFilling_X2_countFilling rfl rfl rfl (by decide +kernel) ⟨Nat.le_of_ble_eq_true rfl, Nat.le_of_ble_eq_true rfl⟩) (va_recv hK hP (ci := 0) (q0 := 0) rfl rfl) hP hK hG hS [0, 1] rfl ⟨Nat.zero_le _, Nat.zero_le _⟩ rfl hl.1 (Nat.le_of_ble_eq_true rfl) dX2_isBeginningAndFilling_13 rfl ?_
  refine lv_aload_n hx hb dX2_isBeginningAndFilling_16 rfl (lv_at hl 0 rfl) ?_
  refine va_get (D := D) (ci := 0) (v := .int (nI n)) (C := RX2) (T := TX2) (N := 2) hx hb hts hi_X2 hown hK hP 0 rfl rfl 1 (by decide) (hts _ (List.mem_of_getElem? (i := 1) rfl)) (fun _ h9 => h9) rfl dX2_isBeginningAndFilling_17 ?_
  refine lv_aload_n hx hb dX2_isBeginningAndFilling_20 rfl (lv_at hl 1 rfl) ?_
  refine va_get (D := D) (ci := 0) (v := .int (nI n1)) (C := RX2) (T := TX2) (N := 2) hx hb hts hi_X2 hown hK hP 2 rfl rfl 1 (by decide) (hts _ (List.mem_of_getElem? (i := 1) rfl)) (fun _ h9 => h9) rfl dX2_isBeginningAndFilling_21 ?_
  refine ln_sub hx hb (by omega) dX2_isBeginningAndFilling_24 ?_
  refine ln_icmp_ne_f (tgt := 32) hx hb ⟨by omega, by omega⟩ (ht.2.2) dX2_isBeginningAndFilling_25 (by decide) ?_
  refine lv_iconst (v := (nI 1)) hx hb dX2_isBeginningAndFilling_28 (by decide +kernel) ?_
  refine lv_goto (tgt := 33) hx hb dX2_isBeginningAndFilling_29 (by decide) ?_
  exact W.zret (v := (nI 1)) (ty := .boolean) hx hb hr (rfl) (fun t ht hW => ⟨(congrArg (fun z => Outcome.returned (some (Value.int z))) (show (nI 1) = (nI 1) from rfl)), ht⟩) (fun q h => nomatch h) dX2_isBeginningAndFilling_33
set_option maxHeartbeats 4000000 in
set_option maxRecDepth 100000 in
/-- with the two other letters -/
theorem c_X2_isOL (l : Launch) (D : va_G) (T : Nat → ClassId) (g : Nat → Nat) (h0 : Nat) (q0 : Nat) (f : Nat → Int32) (n : Nat) (h1 : Nat) (q1 : Nat) (f1 : Nat → Int32) (b : Nat → Nat) (b1 : Nat → Nat) (hb9 : RB f n b) (hb8 : RB f1 n b1) (ht : ∀ j, j < n → b1 j = othN (b j)) : RO l yX2_isInOtherLetters wsX2_isInOtherLetters ({ frames := 1, cells := 0, slots := 0, locals := 21 } : Room) D T g [.ref h0, .ref h1] [(h0, .inr (0, [.ref q0, .int (nI n)])), (q0, .inl (T 0, 440, .inl f)), (h1, .inr (0, [.ref q1, .int (nI n)])), (q1, .inl (T 0, 440, .inl f1))] (.int (nI 1)) := by
  refine Met.ofW (cc := cX2_isInOtherLetters) (maxL := 5) (ret := (some .boolean)) (by decide) rfl ?_
  intro p e s m args below meth c s₁ B hml hv
  obtain ⟨rfl, hP, hK, hG⟩ := hv
  have hx := B.exec
  have hb := B.bytes
  have hr := B.returns
  have hts := atoms_spec (ws := wsX2_isInOtherLetters) B.pre
  have hown : s.vm.findClass RX2 = some m.cls := findClass_of_methodNamed B.named
  have hlocks := B.notSynchronized
  have hi_X2 : ∀ w ∈ wsX20, w ∈ wsX2_isInOtherLetters := by decide +kernel
  have hS : va_S (fun _ => False) s.heap s.heap [] := va_S.rf
  have hl := lv_entry ([.ref h0, .ref h1]) (n := 5) (Nat.le_of_ble_eq_true rfl)
  rw [lg_entry_eq]
  generalize (lg_sl ([.ref h0, .ref h1]) ++ List.replicate (5 - (lg_sl ([.ref h0, .ref h1])).length) Slot.unset).toArray = ls at hl ⊢
  have hl : lv_has ls 5 [(0, .ref h0), (1, .ref h1)] := hl
  have hn := hb9.1
  refine lv_aload_n hx hb dX2_isInOtherLetters_0 rfl (lv_at hl 0 rfl) ?_
  refine va_get (D := D) (ci := 0) (v := .int (nI n)) (C := RX2) (T := TX2) (N := 2) hx hb hts hi_X2 hown hK hP 0 rfl rfl 1 (by decide) (hts _ (List.mem_of_getElem? (i := 1) rfl)) (fun _ h9 => h9) rfl dX2_isInOtherLetters_1 ?_
  refine lv_aload_n hx hb dX2_isInOtherLetters_4 rfl (lv_at hl 1 rfl) ?_
  refine va_get (D := D) (ci := 0) (v := .int (nI n)) (C := RX2) (T := TX2) (N := 2) hx hb hts hi_X2 hown hK hP 2 rfl rfl 1 (by decide) (hts _ (List.mem_of_getElem? (i := 1) rfl)) (fun _ h9 => h9) rfl dX2_isInOtherLetters_5 ?_
  refine ln_icmp_eq_t (tgt := 13) hx hb ⟨by omega, by omega⟩ (rfl) dX2_isInOtherLetters_8 (by decide) ?_
  refine lv_iconst (v := (nI 0)) hx hb dX2_isInOtherLetters_13 (by decide +kernel) ?_
  refine lv_istore_n (lv' := [(2, .int (nI 0)), (0, .ref h0), (1, .ref h1)]) hx hb dX2_isInOtherLetters_14 rfl hl (by decide) rfl (fun ls hl => ?_)
  have K1 : ∀ (N9 : Nat) (i : Nat), (i ≤ n) → n - i < N9 → ∀ ls : Array Slot, lv_has ls 5 [(0, .ref h0), (1, .ref h1), (2, .int (nI i))] → W p l e (headSpec wsX2_isInOtherLetters ({ frames := 1, cells := 0, slots := 0, locals := 21 } : Room)).room s m ([.ref h0, .ref h1] : List Value).toArray below meth c s.heap [] 0 0 (MQ below (k2_QcV (.int (nI 1))) ([.ref h0, .ref h1] : List Value).toArray s 0 0 (fun _ => False)) (F0 m 15 ls []) := by
    intro N9
    induction N9 with
    | zero => intro i hi h9; exact absurd h9 (Nat.not_lt_zero _)
    | succ N9 ih =>
      intro i hi h9 ls hl
      refine lv_iload_n hx hb dX2_isInOtherLetters_15 rfl (lv_at hl 2 rfl) ?_
      refine lv_aload_n hx hb dX2_isInOtherLetters_16 rfl (lv_at hl 0 rfl) ?_
      refine va_get (D := D) (ci := 0) (v := .int (nI n)) (C := RX2) (T := TX2) (N := 2) hx hb hts hi_X2 hown hK hP 0 rfl rfl 1 (by decide) (hts _ (List.mem_of_getElem? (i := 1) rfl)) (fun _ h9 => h9) rfl dX2_isInOtherLetters_17 ?_
      refine ln_icmp_ge (tgt := 76) hx hb ⟨by omega, by omega⟩ dX2_isInOtherLetters_20 (by decide) (fun c_20 => ?_) (fun c_20 => ?_)
      · refine lv_iconst (v := (nI 1)) hx hb dX2_isInOtherLetters_76 (by decide +kernel) ?_
        exact W.zret (v := (nI 1)) (ty := .boolean) hx hb hr (rfl) (fun t ht hW => ⟨(congrArg (fun z => Outcome.returned (some (Value.int z))) (show (nI 1) = (nI 1) from rfl)), ht⟩) (fun q h => nomatch h) dX2_isInOtherLetters_77
      · refine va_gets hx hb (hG.1.1 0 (by decide)).1 hS hown (hts _ (List.mem_of_getElem? (i := 2) rfl)) (fun _ h9 => h9) dX2_isInOtherLetters_23 ?_
        refine lv_aload_n hx hb dX2_isInOtherLetters_26 rfl (lv_at hl 0 rfl) ?_
        refine lv_iload_n hx hb dX2_isInOtherLetters_27 rfl (lv_at hl 2 rfl) ?_
        refine ro_V (As := [.int (nI i)]) (rest := [.ref (g 0)]) (wc := [(h0, .inr (0, [.ref q0, .int (nI n)])), (q0, .inl (T 0, 440, .inl f))]) (r := .int (nI (b i))) ⟨hx, hb, hml, hown, hts⟩ (c_X2_atB l D T g h0 q0 f n i b (hb9) (by omega)) (cwV 1 hts gX2_isInOtherLetters_X2_at rfl rfl rfl (by decide +kernel) ⟨Nat.le_of_ble_eq_true rfl, Nat.le_of_ble_eq_true rfl⟩) (va_recv hK hP (ci := 0) (q0 := 0) rfl rfl) hP hK hG hS [0, 1] rfl ⟨Nat.zero_le _, Nat.zero_le _⟩ rfl hl.1 (Nat.le_of_ble_eq_true rfl) dX2_isInOtherLetters_28 rfl ?_
        refine ro_V (As := [.int (nI (b i))]) (rest := []) (wc := []) (r := .int (wV 0 (b i))) ⟨hx, hb, hml, hown, hts⟩ (c_X0_worthOf l D T g 0 (b i) (by decide) ((hb9.2 i (by omega)).2)) (cwV 1 hts gX2_isInOtherLetters_X0_worthOf rfl rfl rfl (by decide +kernel) ⟨Nat.le_of_ble_eq_true rfl, Nat.le_of_ble_eq_true rfl⟩) (va_recvE hG.1 (show _ < KN.length from by decide) hS) hP hK hG hS [] rfl ⟨Nat.zero_le _, Nat.zero_le _⟩ rfl hl.1 (Nat.le_of_ble_eq_true rfl) dX2_isInOtherLetters_31 rfl ?_
        refine lv_istore_n (lv' := [(3, .int (wV 0 (b i))), (0, .ref h0), (1, .ref h1), (2, .int (nI i))]) hx hb dX2_isInOtherLetters_34 rfl hl (by decide) rfl (fun ls hl => ?_)
        refine lv_iload_n hx hb dX2_isInOtherLetters_35 rfl (lv_at hl 0 rfl) ?_
        refine lv_bipush (v := (nI 62)) hx hb dX2_isInOtherLetters_36 (by decide +kernel) ?_
        refine lv_icmp_ge (tgt := 49) hx hb dX2_isInOtherLetters_38 (by decide) (fun c_38 => ?_) (fun c_38 => ?_)
        · have hw9 := wV_ge62.mp c_38
          rw [wV_pos hw9.2] at hl
          refine va_gets hx hb (hG.1.1 1 (by decide)).1 hS hown (hts _ (List.mem_of_getElem? (i := 3) rfl)) (fun _ h9 => h9) dX2_isInOtherLetters_49 ?_
          refine lv_iload_n hx hb dX2_isInOtherLetters_52 rfl (lv_at hl 0 rfl) ?_
          refine ro_V (As := [.int (nI (wN 0 (b i)))]) (rest := []) (wc := []) (r := .int (nI (letN 1 (wN 0 (b i))))) ⟨hx, hb, hml, hown, hts⟩ (c_X0_letterOf l D T g 1 (wN 0 (b i)) (by decide) (hw9.2)) (cwV 1 hts gX2_isInOtherLetters_X0_letterOf rfl rfl rfl (by decide +kernel) ⟨Nat.le_of_ble_eq_true rfl, Nat.le_of_ble_eq_true rfl⟩) (va_recvE hG.1 (show _ < KN.length from by decide) hS) hP hK hG hS [] rfl ⟨Nat.zero_le _, Nat.zero_le _⟩ rfl hl.1 (Nat.le_of_ble_eq_true rfl) dX2_isInOtherLetters_53 rfl ?_
          refine lv_istore (lv' := [(4, .int (nI (letN 1 (wN 0 (b i))))), (3, .int (nI (wN 0 (b i)))), (0, .ref h0), (1, .ref h1), (2, .int (nI i))]) hx hb dX2_isInOtherLetters_56 hl (by decide) rfl (fun ls hl => ?_)
          refine lv_aload_n hx hb dX2_isInOtherLetters_58 rfl (lv_at hl 3 rfl) ?_
          refine lv_iload_n hx hb dX2_isInOtherLetters_59 rfl (lv_at hl 4 rfl) ?_
          refine ro_V (As := [.int (nI i)]) (rest := []) (wc := [(h1, .inr (0, [.ref q1, .int (nI n)])), (q1, .inl (T 0, 440, .inl f1))]) (r := .int (nI (b1 i))) ⟨hx, hb, hml, hown, hts⟩ (c_X2_atB l D T g h1 q1 f1 n i b1 (hb8) (by omega)) (cwV 1 hts gX2_isInOtherLetters_X2_at rfl rfl rfl (by decide +kernel) ⟨Nat.le_of_ble_eq_true rfl, Nat.le_of_ble_eq_true rfl⟩) (va_recv hK hP (ci := 0) (q0 := 2) rfl rfl) hP hK hG hS [2, 3] rfl ⟨Nat.zero_le _, Nat.zero_le _⟩ rfl hl.1 (Nat.le_of_ble_eq_true rfl) dX2_isInOtherLetters_60 rfl ?_
          refine lv_iload hx hb dX2_isInOtherLetters_63 (lv_at hl 0 rfl) ?_
          have ho : b1 i < 256 := (hb8.2 i (by omega)).2
          have ho2 := ht i (by omega)
          have ho3 := (hb9.2 i (by omega)).2
          refine ln_icmp_eq_t (tgt := 70) hx hb ⟨by first | omega | (have q9 := letN_lt (k := 1) hw9.2; omega), by first | omega | (have q9 := letN_lt (k := 1) hw9.2; omega)⟩ ((ht i (by omega)).trans (if_pos hw9)) dX2_isInOtherLetters_65 (by decide) ?_
          refine lv_iinc (v := (nI (i + 1))) (lv' := [(2, .int (nI (i + 1))), (4, .int (nI (letN 1 (wN 0 (b i))))), (3, .int (nI (wN 0 (b i)))), (0, .ref h0), (1, .ref h1)]) hx hb dX2_isInOtherLetters_70 hl (k := 4) rfl (ni_inc1 _) (by decide) rfl (fun ls hl => ?_)
          refine lv_goto (tgt := 15) hx hb dX2_isInOtherLetters_73 (by decide) ?_
          exact ih (i + 1) (by omega) (by omega) ls (lv_sub hl [3, 4, 0] rfl)
        · have hw9 : ¬ (62 ≤ wN 0 (b i) ∧ wN 0 (b i) < 64) := fun z => c_38 (wV_ge62.mpr z)
          refine lv_aload_n hx hb dX2_isInOtherLetters_41 rfl (lv_at hl 1 rfl) ?_
          refine lv_iload_n hx hb dX2_isInOtherLetters_42 rfl (lv_at hl 3 rfl) ?_
          refine ro_V (As := [.int (nI i)]) (rest := []) (wc := [(h0, .inr (0, [.ref q0, .int (nI n)])), (q0, .inl (T 0, 440, .inl f))]) (r := .int (nI (b i))) ⟨hx, hb, hml, hown, hts⟩ (c_X2_atB l D T g h0 q0 f n i b (hb9) (by omega)) (cwV 1 hts gX2_isInOtherLetters_X2_at rfl rfl rfl (by decide +kernel) ⟨Nat.le_of_ble_eq_true rfl, Nat.le_of_ble_eq_true rfl⟩) (va_recv hK hP (ci := 0) (q0 := 0) rfl rfl) hP hK hG hS [0, 1] rfl ⟨Nat.zero_le _, Nat.zero_le _⟩ rfl hl.1 (Nat.le_of_ble_eq_true rfl) dX2_isInOtherLetters_43 rfl ?_
          refine lv_goto (tgt := 56) hx hb dX2_isInOtherLetters_46 (by decide) ?_
          refine lv_istore (lv' := [(4, .int (nI (b i))), (3, .int (wV 0 (b i))), (0, .ref h0), (1, .ref h1), (2, .int (nI i))]) hx hb dX2_isInOtherLetters_56 hl (by decide) rfl (fun ls hl => ?_)
          refine lv_aload_n hx hb dX2_isInOtherLetters_58 rfl (lv_at hl 3 rfl) ?_
          refine lv_iload_n hx hb dX2_isInOtherLetters_59 rfl (lv_at hl 4 rfl) ?_
          refine ro_V (As := [.int (nI i)]) (rest := []) (wc := [(h1, .inr (0, [.ref q1, .int (nI n)])), (q1, .inl (T 0, 440, .inl f1))]) (r := .int (nI (b1 i))) ⟨hx, hb, hml, hown, hts⟩ (c_X2_atB l D T g h1 q1 f1 n i b1 (hb8) (by omega)) (cwV 1 hts gX2_isInOtherLetters_X2_at rfl rfl rfl (by decide +kernel) ⟨Nat.le_of_ble_eq_true rfl, Nat.le_of_ble_eq_true rfl⟩) (va_recv hK hP (ci := 0) (q0 := 2) rfl rfl) hP hK hG hS [2, 3] rfl ⟨Nat.zero_le _, Nat.zero_le _⟩ rfl hl.1 (Nat.le_of_ble_eq_true rfl) dX2_isInOtherLetters_60 rfl ?_
          refine lv_iload hx hb dX2_isInOtherLetters_63 (lv_at hl 0 rfl) ?_
          have ho : b1 i < 256 := (hb8.2 i (by omega)).2
          have ho2 := ht i (by omega)
          have ho3 := (hb9.2 i (by omega)).2
          refine ln_icmp_eq_t (tgt := 70) hx hb ⟨by first | omega | (have q9 := letN_lt (k := 1) hw9.2; omega), by first | omega | (have q9 := letN_lt (k := 1) hw9.2; omega)⟩ ((ht i (by omega)).trans (if_neg hw9)) dX2_isInOtherLetters_65 (by decide) ?_
          refine lv_iinc (v := (nI (i + 1))) (lv' := [(2, .int (nI (i + 1))), (4, .int (nI (b i))), (3, .int (wV 0 (b i))), (0, .ref h0), (1, .ref h1)]) hx hb dX2_isInOtherLetters_70 hl (k := 4) rfl (ni_inc1 _) (by decide) rfl (fun ls hl => ?_)
          refine lv_goto (tgt := 15) hx hb dX2_isInOtherLetters_73 (by decide) ?_
          exact ih (i + 1) (by omega) (by omega) ls (lv_sub hl [3, 4, 0] rfl)
  exact K1 _ 0 (by omega) (Nat.lt_succ_self _) ls (lv_sub hl [1, 2, 0] rfl)
set_option maxHeartbeats 4000000 in
set_option maxRecDepth 100000 in
/-- but for the ends of lines -/
theorem c_X2_isWL (l : Launch) (D : va_G) (T : Nat → ClassId) (g : Nat → Nat) (h0 : Nat) (q0 : Nat) (f : Nat → Int32) (n : Nat) (h1 : Nat) (q1 : Nat) (f1 : Nat → Int32) (n1 : Nat) (b : Nat → Nat) (b1 : Nat → Nat) (pl : Nat → Nat) (hb9 : RB f n b) (hb8 : RB f1 n1 b1) (ht : pl 0 = 0 ∧ pl n1 = n ∧ ∀ i, i < n1 → ((b1 i = 13 ∨ b1 i = 10) ∧ pl (i + 1) = pl i) ∨ (¬ (b1 i = 13 ∨ b1 i = 10) ∧ pl i < n ∧ b (pl i) = b1 i ∧ pl (i + 1) = pl i + 1)) : RO l yX2_isWithoutLineEnds wsX2_isWithoutLineEnds ({ frames := 1, cells := 0, slots := 0, locals := 21 } : Room) D T g [.ref h0, .ref h1] [(h0, .inr (0, [.ref q0, .int (nI n)])), (q0, .inl (T 0, 440, .inl f)), (h1, .inr (0, [.ref q1, .int (nI n1)])), (q1, .inl (T 0, 440, .inl f1))] (.int (nI 1)) := by
  refine Met.ofW (cc := cX2_isWithoutLineEnds) (maxL := 5) (ret := (some .boolean)) (by decide) rfl ?_
  intro p e s m args below meth c s₁ B hml hv
  obtain ⟨rfl, hP, hK, hG⟩ := hv
  have hx := B.exec
  have hb := B.bytes
  have hr := B.returns
  have hts := atoms_spec (ws := wsX2_isWithoutLineEnds) B.pre
  have hown : s.vm.findClass RX2 = some m.cls := findClass_of_methodNamed B.named
  have hlocks := B.notSynchronized
  have hi_X2 : ∀ w ∈ wsX20, w ∈ wsX2_isWithoutLineEnds := by decide +kernel
  have hS : va_S (fun _ => False) s.heap s.heap [] := va_S.rf
  have hl := lv_entry ([.ref h0, .ref h1]) (n := 5) (Nat.le_of_ble_eq_true rfl)
  rw [lg_entry_eq]
  generalize (lg_sl ([.ref h0, .ref h1]) ++ List.replicate (5 - (lg_sl ([.ref h0, .ref h1])).length) Slot.unset).toArray = ls at hl ⊢
  have hl : lv_has ls 5 [(0, .ref h0), (1, .ref h1)] := hl
  have hn := hb9.1
  have hn1 := hb8.1
  refine lv_iconst (v := (nI 0)) hx hb dX2_isWithoutLineEnds_0 (by decide +kernel) ?_
  refine lv_istore_n (lv' := [(2, .int (nI 0)), (0, .ref h0), (1, .ref h1)]) hx hb dX2_isWithoutLineEnds_1 rfl hl (by decide) rfl (fun ls hl => ?_)
  refine lv_iconst (v := (nI 0)) hx hb dX2_isWithoutLineEnds_2 (by decide +kernel) ?_
  refine lv_istore_n (lv' := [(3, .int (nI 0)), (2, .int (nI 0)), (0, .ref h0), (1, .ref h1)]) hx hb dX2_isWithoutLineEnds_3 rfl hl (by decide) rfl (fun ls hl => ?_)
  have K1 : ∀ (N9 : Nat) (i : Nat) (p9 : Nat), (i ≤ n1) → (p9 = pl i ∧ p9 ≤ n) → n1 - i < N9 → ∀ ls : Array Slot, lv_has ls 5 [(0, .ref h0), (1, .ref h1), (2, .int (nI p9)), (3, .int (nI i))] → W p l e (headSpec wsX2_isWithoutLineEnds ({ frames := 1, cells := 0, slots := 0, locals := 21 } : Room)).room s m ([.ref h0, .ref h1] : List Value).toArray below meth c s.heap [] 0 0 (MQ below (k2_QcV (.int (nI 1))) ([.ref h0, .ref h1] : List Value).toArray s 0 0 (fun _ => False)) (F0 m 4 ls []) := by
    intro N9
    induction N9 with
    | zero => intro i p9 hi hp h9; exact absurd h9 (Nat.not_lt_zero _)
    | succ N9 ih =>
      intro i p9 hi hp h9 ls hl
      refine lv_iload_n hx hb dX2_isWithoutLineEnds_4 rfl (lv_at hl 3 rfl) ?_
      refine lv_aload_n hx hb dX2_isWithoutLineEnds_5 rfl (lv_at hl 1 rfl) ?_
      refine va_get (D := D) (ci := 0) (v := .int (nI n1)) (C := RX2) (T := TX2) (N := 2) hx hb hts hi_X2 hown hK hP 2 rfl rfl 1 (by decide) (hts _ (List.mem_of_getElem? (i := 1) rfl)) (fun _ h9 => h9) rfl dX2_isWithoutLineEnds_6 ?_
      refine ln_icmp_ge (tgt := 65) hx hb ⟨by omega, by omega⟩ dX2_isWithoutLineEnds_9 (by decide) (fun c_9 => ?_) (fun c_9 => ?_)
      · refine lv_iload_n hx hb dX2_isWithoutLineEnds_65 rfl (lv_at hl 2 rfl) ?_
        refine lv_aload_n hx hb dX2_isWithoutLineEnds_66 rfl (lv_at hl 0 rfl) ?_
        refine va_get (D := D) (ci := 0) (v := .int (nI n)) (C := RX2) (T := TX2) (N := 2) hx hb hts hi_X2 hown hK hP 0 rfl rfl 1 (by decide) (hts _ (List.mem_of_getElem? (i := 1) rfl)) (fun _ h9 => h9) rfl dX2_isWithoutLineEnds_67 ?_
        refine ln_icmp_ne_f (tgt := 77) hx hb ⟨by omega, by omega⟩ (by have e9 : i = n1 := (by omega); subst e9; omega) dX2_isWithoutLineEnds_70 (by decide) ?_
        refine lv_iconst (v := (nI 1)) hx hb dX2_isWithoutLineEnds_73 (by decide +kernel) ?_
        refine lv_goto (tgt := 78) hx hb dX2_isWithoutLineEnds_74 (by decide) ?_
        exact W.zret (v := (nI 1)) (ty := .boolean) hx hb hr (rfl) (fun t ht hW => ⟨(congrArg (fun z => Outcome.returned (some (Value.int z))) (show (nI 1) = (nI 1) from rfl)), ht⟩) (fun q h => nomatch h) dX2_isWithoutLineEnds_78
      · refine lv_aload_n hx hb dX2_isWithoutLineEnds_12 rfl (lv_at hl 1 rfl) ?_
        refine lv_iload_n hx hb dX2_isWithoutLineEnds_13 rfl (lv_at hl 3 rfl) ?_
        refine ro_V (As := [.int (nI i)]) (rest := []) (wc := [(h1, .inr (0, [.ref q1, .int (nI n1)])), (q1, .inl (T 0, 440, .inl f1))]) (r := .int (nI (b1 i))) ⟨hx, hb, hml, hown, hts⟩ (c_X2_atB l D T g h1 q1 f1 n1 i b1 (hb8) (by omega)) (cwV 1 hts gX2_isWithoutLineEnds_X2_at rfl rfl rfl (by decide +kernel) ⟨Nat.le_of_ble_eq_true rfl, Nat.le_of_ble_eq_true rfl⟩) (va_recv hK hP (ci := 0) (q0 := 2) rfl rfl) hP hK hG hS [2, 3] rfl ⟨Nat.zero_le _, Nat.zero_le _⟩ rfl hl.1 (Nat.le_of_ble_eq_true rfl) dX2_isWithoutLineEnds_14 rfl ?_
        refine lv_istore (lv' := [(4, .int (nI (b1 i))), (0, .ref h0), (1, .ref h1), (2, .int (nI p9)), (3, .int (nI i))]) hx hb dX2_isWithoutLineEnds_17 hl (by decide) rfl (fun ls hl => ?_)
        refine lv_iload hx hb dX2_isWithoutLineEnds_19 (lv_at hl 0 rfl) ?_
        refine lv_bipush (v := (nI 13)) hx hb dX2_isWithoutLineEnds_21 (by decide +kernel) ?_
        have hx1 := (hb8.2 i (by omega)).2
        refine ln_icmp_eq (tgt := 59) hx hb ⟨by omega, by omega⟩ dX2_isWithoutLineEnds_23 (by decide) (fun c_23 => ?_) (fun c_23 => ?_)
        · refine lv_iinc (v := (nI (i + 1))) (lv' := [(3, .int (nI (i + 1))), (4, .int (nI (b1 i))), (0, .ref h0), (1, .ref h1), (2, .int (nI p9))]) hx hb dX2_isWithoutLineEnds_59 hl (k := 4) rfl (ni_inc1 _) (by decide) rfl (fun ls hl => ?_)
          refine lv_goto (tgt := 4) hx hb dX2_isWithoutLineEnds_62 (by decide) ?_
          exact ih (i + 1) p9 (by omega) (by rcases ht.2.2 i (by omega) with q9 | q9 <;> omega) (by omega) ls (lv_sub hl [2, 3, 4, 0] rfl)
        · refine lv_iload hx hb dX2_isWithoutLineEnds_26 (lv_at hl 0 rfl) ?_
          refine lv_bipush (v := (nI 10)) hx hb dX2_isWithoutLineEnds_28 (by decide +kernel) ?_
          refine ln_icmp_ne (tgt := 36) hx hb ⟨by omega, by omega⟩ dX2_isWithoutLineEnds_30 (by decide) (fun c_30 => ?_) (fun c_30 => ?_)
          · refine lv_iload_n hx hb dX2_isWithoutLineEnds_36 rfl (lv_at hl 3 rfl) ?_
            refine lv_aload_n hx hb dX2_isWithoutLineEnds_37 rfl (lv_at hl 1 rfl) ?_
            refine va_get (D := D) (ci := 0) (v := .int (nI n)) (C := RX2) (T := TX2) (N := 2) hx hb hts hi_X2 hown hK hP 0 rfl rfl 1 (by decide) (hts _ (List.mem_of_getElem? (i := 1) rfl)) (fun _ h9 => h9) rfl dX2_isWithoutLineEnds_38 ?_
            refine ln_icmp_ge_f (tgt := 54) hx hb ⟨by omega, by omega⟩ (by rcases ht.2.2 i (by omega) with q9 | q9 <;> omega) dX2_isWithoutLineEnds_41 (by decide) ?_
            have hp9 : p9 < n := by rcases ht.2.2 i (by omega) with q9 | q9 <;> omega
            refine lv_aload_n hx hb dX2_isWithoutLineEnds_44 rfl (lv_at hl 1 rfl) ?_
            refine lv_iload_n hx hb dX2_isWithoutLineEnds_45 rfl (lv_at hl 3 rfl) ?_
            refine ro_V (As := [.int (nI p9)]) (rest := []) (wc := [(h0, .inr (0, [.ref q0, .int (nI n)])), (q0, .inl (T 0, 440, .inl f))]) (r := .int (nI (b p9))) ⟨hx, hb, hml, hown, hts⟩ (c_X2_atB l D T g h0 q0 f n p9 b (hb9) (by omega)) (cwV 1 hts gX2_isWithoutLineEnds_X2_at rfl rfl rfl (by decide +kernel) ⟨Nat.le_of_ble_eq_true rfl, Nat.le_of_ble_eq_true rfl⟩) (va_recv hK hP (ci := 0) (q0 := 0) rfl rfl) hP hK hG hS [0, 1] rfl ⟨Nat.zero_le _, Nat.zero_le _⟩ rfl hl.1 (Nat.le_of_ble_eq_true rfl) dX2_isWithoutLineEnds_46 rfl ?_
            refine lv_iload hx hb dX2_isWithoutLineEnds_49 (lv_at hl 0 rfl) ?_
            have hx2 := (hb9.2 p9 (by omega)).2
            refine ln_icmp_eq_t (tgt := 56) hx hb ⟨by omega, by omega⟩ (by
                  rcases ht.2.2 i (by omega) with q9 | q9
                  · omega
                  · rw [hp.1]; exact q9.2.2.1) dX2_isWithoutLineEnds_51 (by decide) ?_
            refine lv_iinc (v := (nI (p9 + 1))) (lv' := [(2, .int (nI (p9 + 1))), (4, .int (nI (b1 i))), (0, .ref h0), (1, .ref h1), (3, .int (nI i))]) hx hb dX2_isWithoutLineEnds_56 hl (k := 3) rfl (ni_inc1 _) (by decide) rfl (fun ls hl => ?_)
            refine lv_iinc (v := (nI (i + 1))) (lv' := [(3, .int (nI (i + 1))), (2, .int (nI (p9 + 1))), (4, .int (nI (b1 i))), (0, .ref h0), (1, .ref h1)]) hx hb dX2_isWithoutLineEnds_59 hl (k := 4) rfl (ni_inc1 _) (by decide) rfl (fun ls hl => ?_)
            refine lv_goto (tgt := 4) hx hb dX2_isWithoutLineEnds_62 (by decide) ?_
            exact ih (i + 1) (p9 + 1) (by omega) (by rcases ht.2.2 i (by omega) with q9 | q9 <;> omega) (by omega) ls (lv_sub hl [3, 4, 1, 0] rfl)
          · refine lv_goto (tgt := 59) hx hb dX2_isWithoutLineEnds_33 (by decide) ?_
            refine lv_iinc (v := (nI (i + 1))) (lv' := [(3, .int (nI (i + 1))), (4, .int (nI (b1 i))), (0, .ref h0), (1, .ref h1), (2, .int (nI p9))]) hx hb dX2_isWithoutLineEnds_59 hl (k := 4) rfl (ni_inc1 _) (by decide) rfl (fun ls hl => ?_)
            refine lv_goto (tgt := 4) hx hb dX2_isWithoutLineEnds_62 (by decide) ?_
            exact ih (i + 1) p9 (by omega) (by rcases ht.2.2 i (by omega) with q9 | q9 <;> omega) (by omega) ls (lv_sub hl [2, 3, 4, 0] rfl)
  exact K1 _ 0 0 (by omega) (⟨ht.1.symm, Nat.zero_le _⟩) (Nat.lt_succ_self _) ls (lv_sub hl [2, 3, 1, 0] rfl)
