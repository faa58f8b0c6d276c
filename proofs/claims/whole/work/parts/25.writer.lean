set_option maxHeartbeats 4000000 in
set_option maxRecDepth 100000 in
/-- how many signs -/
theorem c_X4_countSigns (l : Launch) (D : va_G) (T : Nat → ClassId) (g : Nat → Nat) (n : Nat) (fl : Nat) (hn : n ≤ 440 ∧ fl < 2) : RO l yX4_countSigns wsX4_countSigns ({ frames := 0, cells := 0, slots := 0, locals := 0 } : Room) D T g [.int (nI n), .int (nI fl)] [] (.int (nI (sgN n fl))) := by
  refine Met.ofW (cc := cX4_countSigns) (maxL := 4) (ret := (some .int)) (by decide) rfl ?_
  intro p e s m args below meth c s₁ B hml hv
  obtain ⟨rfl, hP, hK, hG⟩ := hv
  have hx := B.exec
  have hb := B.bytes
  have hr := B.returns
  have hts := atoms_spec (ws := wsX4_countSigns) B.pre
  have hown : s.vm.findClass RX4 = some m.cls := findClass_of_methodNamed B.named
  have hlocks := B.notSynchronized
  have hS : va_S (fun _ => False) s.heap s.heap [] := va_S.rf
  have hl := lv_entry ([.int (nI n), .int (nI fl)]) (n := 4) (Nat.le_of_ble_eq_true rfl)
  rw [lg_entry_eq]
  generalize (lg_sl ([.int (nI n), .int (nI fl)]) ++ List.replicate (4 - (lg_sl ([.int (nI n), .int (nI fl)])).length) Slot.unset).toArray = ls at hl ⊢
  have hl : lv_has ls 4 [(0, .int (nI n)), (1, .int (nI fl))] := hl
  refine lv_iload_n hx hb dX4_countSigns_0 rfl (lv_at hl 0 rfl) ?_
  refine lv_iconst (v := (nI 3)) hx hb dX4_countSigns_1 (by decide +kernel) ?_
  refine ln_rem hx hb ⟨by omega, by omega, by omega⟩ dX4_countSigns_2 ?_
  refine lv_istore_n (lv' := [(2, .int (nI (n % 3))), (0, .int (nI n)), (1, .int (nI fl))]) hx hb dX4_countSigns_3 rfl hl (by decide) rfl (fun ls hl => ?_)
  refine lv_iload_n hx hb dX4_countSigns_4 rfl (lv_at hl 1 rfl) ?_
  refine lv_iconst (v := (nI 3)) hx hb dX4_countSigns_5 (by decide +kernel) ?_
  refine ln_div hx hb ⟨by omega, by omega, by omega⟩ dX4_countSigns_6 ?_
  refine lv_iconst (v := (nI 4)) hx hb dX4_countSigns_7 (by decide +kernel) ?_
  refine ln_mul hx hb dX4_countSigns_8 ?_
  refine lv_istore_n (lv' := [(3, .int (nI ((n / 3) * 4))), (2, .int (nI (n % 3))), (0, .int (nI n)), (1, .int (nI fl))]) hx hb dX4_countSigns_9 rfl hl (by decide) rfl (fun ls hl => ?_)
  refine lv_iload_n hx hb dX4_countSigns_10 rfl (lv_at hl 1 rfl) ?_
  refine ln_if_ne (tgt := 16) hx hb (by omega) dX4_countSigns_11 (by decide) (fun c_11 => ?_) (fun c_11 => ?_)
  · refine lv_iload_n hx hb dX4_countSigns_16 rfl (lv_at hl 3 rfl) ?_
    refine ln_if_eq (tgt := 26) hx hb (by omega) dX4_countSigns_17 (by decide) (fun c_17 => ?_) (fun c_17 => ?_)
    · refine lv_iload_n hx hb dX4_countSigns_26 rfl (lv_at hl 0 rfl) ?_
      refine lv_iload_n hx hb dX4_countSigns_27 rfl (lv_at hl 1 rfl) ?_
      refine ln_add hx hb dX4_countSigns_28 ?_
      refine lv_iconst (v := (nI 1)) hx hb dX4_countSigns_29 (by decide +kernel) ?_
      refine ln_add hx hb dX4_countSigns_30 ?_
      exact W.iret (v := (nI ((((n / 3) * 4) + (n % 3)) + 1))) hx hb hr (fun t ht hW => ⟨(congrArg (fun z => Outcome.returned (some (Value.int z))) (show (nI ((((n / 3) * 4) + (n % 3)) + 1)) = (nI (sgN n fl)) from congrArg nI (by unfold sgN; rw [if_neg c_11]; split <;> omega))), ht⟩) (fun q h => nomatch h) dX4_countSigns_31
    · refine lv_iload_n hx hb dX4_countSigns_20 rfl (lv_at hl 0 rfl) ?_
      refine lv_iconst (v := (nI 4)) hx hb dX4_countSigns_21 (by decide +kernel) ?_
      refine ln_add hx hb dX4_countSigns_22 ?_
      refine lv_goto (tgt := 31) hx hb dX4_countSigns_23 (by decide) ?_
      exact W.iret (v := (nI (((n / 3) * 4) + 4))) hx hb hr (fun t ht hW => ⟨(congrArg (fun z => Outcome.returned (some (Value.int z))) (show (nI (((n / 3) * 4) + 4)) = (nI (sgN n fl)) from congrArg nI (by unfold sgN; (repeat' split) <;> omega))), ht⟩) (fun q h => nomatch h) dX4_countSigns_31
  · refine lv_iload_n hx hb dX4_countSigns_14 rfl (lv_at hl 0 rfl) ?_
    exact W.iret (v := (nI ((n / 3) * 4))) hx hb hr (fun t ht hW => ⟨(congrArg (fun z => Outcome.returned (some (Value.int z))) (show (nI ((n / 3) * 4)) = (nI (sgN n fl)) from congrArg nI (if_pos c_11).symm)), ht⟩) (fun q h => nomatch h) dX4_countSigns_15
set_option maxHeartbeats 4000000 in
set_option maxRecDepth 100000 in
/-- how long what is written is -/
theorem c_X4_lengthOf (l : Launch) (D : va_G) (T : Nat → ClassId) (g : Nat → Nat) (n : Nat) (k : Nat) (fl : Nat) (hk : k < 3) (hn : n ≤ 320 ∧ fl < 2) : RO l yX4_lengthOf wsX4_lengthOf ({ frames := 1, cells := 0, slots := 0, locals := 23 } : Room) D T g [.int (nI n), .ref (g k), .int (nI fl)] [] (.int (nI (lnN k n fl))) := by
  refine Met.ofW (cc := cX4_lengthOf) (maxL := 4) (ret := (some .int)) (by decide) rfl ?_
  intro p e s m args below meth c s₁ B hml hv
  obtain ⟨rfl, hP, hK, hG⟩ := hv
  have hx := B.exec
  have hb := B.bytes
  have hr := B.returns
  have hts := atoms_spec (ws := wsX4_lengthOf) B.pre
  have hown : s.vm.findClass RX4 = some m.cls := findClass_of_methodNamed B.named
  have hlocks := B.notSynchronized
  have hS : va_S (fun _ => False) s.heap s.heap [] := va_S.rf
  have hl := lv_entry ([.int (nI n), .ref (g k), .int (nI fl)]) (n := 4) (Nat.le_of_ble_eq_true rfl)
  rw [lg_entry_eq]
  generalize (lg_sl ([.int (nI n), .ref (g k), .int (nI fl)]) ++ List.replicate (4 - (lg_sl ([.int (nI n), .ref (g k), .int (nI fl)])).length) Slot.unset).toArray = ls at hl ⊢
  have hl : lv_has ls 4 [(0, .int (nI n)), (1, .ref (g k)), (2, .int (nI fl))] := hl
  have kh := kH_lt k
  have h9 := sgN_le (fl := fl) hn.1
  refine lv_iload_n hx hb dX4_lengthOf_0 rfl (lv_at hl 0 rfl) ?_
  refine lv_iload_n hx hb dX4_lengthOf_1 rfl (lv_at hl 2 rfl) ?_
  refine ro_S (As := [.int (nI n), .int (nI fl)]) (rest := []) (wc := []) (r := .int (nI (sgN n fl))) ⟨hx, hb, hml, hown, hts⟩ (c_X4_countSigns l D T g n fl (by omega)) (va_cwS 2 hts gX4_lengthOf_X4_countSigns rfl rfl rfl (by decide +kernel) ⟨Nat.le_of_ble_eq_true rfl, Nat.le_of_ble_eq_true rfl⟩) hP hK hG hS [] rfl ⟨Nat.zero_le _, Nat.zero_le _⟩ rfl hl.1 (Nat.le_of_ble_eq_true rfl) dX4_lengthOf_2 rfl ?_
  refine lv_istore_n (lv' := [(3, .int (nI (sgN n fl))), (0, .int (nI n)), (1, .ref (g k)), (2, .int (nI fl))]) hx hb dX4_lengthOf_5 rfl hl (by decide) rfl (fun ls hl => ?_)
  refine lv_aload_n hx hb dX4_lengthOf_6 rfl (lv_at hl 2 rfl) ?_
  refine va_getEN hx hb hG.1 (show _ < KN.length from hk) hS hown (q := FK[2]) (List.mem_of_getElem? (i := 2) rfl) (va_Nw.use rfl (hG.2.2.2.2.2.2.2.1 _ (List.mem_of_getElem? (i := 5) rfl))) (fun _ h9 => h9) dX4_lengthOf_7 ?_
  rw [show (FK[2]).2.2.2.getD k 0 = nI (kH k) from k_f2 _ (hk)]
  refine ln_if_eq (tgt := 17) hx hb (by omega) dX4_lengthOf_10 (by decide) (fun c_10 => ?_) (fun c_10 => ?_)
  · refine lv_iload_n hx hb dX4_lengthOf_17 rfl (lv_at hl 0 rfl) ?_
    exact W.iret (v := (nI (sgN n fl))) hx hb hr (fun t ht hW => ⟨(congrArg (fun z => Outcome.returned (some (Value.int z))) (show (nI (sgN n fl)) = (nI (lnN k n fl)) from congrArg nI (if_neg (fun q => kH_2.mp c_10 q.1)).symm)), ht⟩) (fun q h => nomatch h) dX4_lengthOf_18
  · refine lv_iload_n hx hb dX4_lengthOf_13 rfl (lv_at hl 0 rfl) ?_
    refine ln_if_ne (tgt := 19) hx hb (by omega) dX4_lengthOf_14 (by decide) (fun c_14 => ?_) (fun c_14 => ?_)
    · refine lv_iload_n hx hb dX4_lengthOf_19 rfl (lv_at hl 0 rfl) ?_
      refine lv_iload_n hx hb dX4_lengthOf_20 rfl (lv_at hl 0 rfl) ?_
      refine lv_iconst (v := (nI 1)) hx hb dX4_lengthOf_21 (by decide +kernel) ?_
      refine ln_sub hx hb (by omega) dX4_lengthOf_22 ?_
      refine lv_bipush (v := (nI 76)) hx hb dX4_lengthOf_23 (by decide +kernel) ?_
      refine ln_div hx hb ⟨by omega, by omega, by omega⟩ dX4_lengthOf_25 ?_
      refine lv_iconst (v := (nI 2)) hx hb dX4_lengthOf_26 (by decide +kernel) ?_
      refine ln_mul hx hb dX4_lengthOf_27 ?_
      refine ln_add hx hb dX4_lengthOf_28 ?_
      exact W.iret (v := (nI ((sgN n fl) + ((((sgN n fl) - 1) / 76) * 2)))) hx hb hr (fun t ht hW => ⟨(congrArg (fun z => Outcome.returned (some (Value.int z))) (show (nI ((sgN n fl) + ((((sgN n fl) - 1) / 76) * 2))) = (nI (lnN k n fl)) from congrArg nI (if_pos ⟨Decidable.not_not.mp (fun q => c_10 (kH_2.mpr q)), c_14⟩).symm)), ht⟩) (fun q h => nomatch h) dX4_lengthOf_29
    · refine lv_iload_n hx hb dX4_lengthOf_17 rfl (lv_at hl 0 rfl) ?_
      exact W.iret (v := (nI (sgN n fl))) hx hb hr (fun t ht hW => ⟨(congrArg (fun z => Outcome.returned (some (Value.int z))) (show (nI (sgN n fl)) = (nI (lnN k n fl)) from congrArg nI (if_neg (fun q => q.2 c_14)).symm)), ht⟩) (fun q h => nomatch h) dX4_lengthOf_18
set_option maxHeartbeats 4000000 in
set_option maxRecDepth 100000 in
/-- the sign at an index -/
theorem c_X4_signAt (l : Launch) (D : va_G) (T : Nat → ClassId) (g : Nat → Nat) (h0 : Nat) (q0 : Nat) (f : Nat → Int32) (n : Nat) (k : Nat) (j : Nat) (b : Nat → Nat) (hb9 : RB f n b) (hk : k < 3) (hj : j < 100000) : RO l yX4_signAt wsX4_signAt ({ frames := 1, cells := 0, slots := 0, locals := 21 } : Room) D T g [.ref h0, .ref (g k), .int (nI j)] [(h0, .inr (0, [.ref q0, .int (nI n)])), (q0, .inl (T 0, 440, .inl f))] (.int (nI (sgA k n b j))) := by
  refine Met.ofW (cc := cX4_signAt) (maxL := 6) (ret := (some .int)) (by decide) rfl ?_
  intro p e s m args below meth c s₁ B hml hv
  obtain ⟨rfl, hP, hK, hG⟩ := hv
  have hx := B.exec
  have hb := B.bytes
  have hr := B.returns
  have hts := atoms_spec (ws := wsX4_signAt) B.pre
  have hown : s.vm.findClass RX4 = some m.cls := findClass_of_methodNamed B.named
  have hlocks := B.notSynchronized
  have hi_X2 : ∀ w ∈ wsX20, w ∈ wsX4_signAt := by decide +kernel
  have hS : va_S (fun _ => False) s.heap s.heap [] := va_S.rf
  have hl := lv_entry ([.ref h0, .ref (g k), .int (nI j)]) (n := 6) (Nat.le_of_ble_eq_true rfl)
  rw [lg_entry_eq]
  generalize (lg_sl ([.ref h0, .ref (g k), .int (nI j)]) ++ List.replicate (6 - (lg_sl ([.ref h0, .ref (g k), .int (nI j)])).length) Slot.unset).toArray = ls at hl ⊢
  have hl : lv_has ls 6 [(0, .ref h0), (1, .ref (g k)), (2, .int (nI j))] := hl
  have hn := hb9.1
  have ha1 := atN_lt hb9 (j * 6 / 8)
  have ha2 := atN_lt hb9 (j * 6 / 8 + 1)
  refine lv_iload_n hx hb dX4_signAt_0 rfl (lv_at hl 2 rfl) ?_
  refine lv_bipush (v := (nI 6)) hx hb dX4_signAt_1 (by decide +kernel) ?_
  refine ln_mul hx hb dX4_signAt_3 ?_
  refine lv_istore_n (lv' := [(3, .int (nI (j * 6))), (0, .ref h0), (1, .ref (g k)), (2, .int (nI j))]) hx hb dX4_signAt_4 rfl hl (by decide) rfl (fun ls hl => ?_)
  refine lv_iload_n hx hb dX4_signAt_5 rfl (lv_at hl 0 rfl) ?_
  refine lv_bipush (v := (nI 8)) hx hb dX4_signAt_6 (by decide +kernel) ?_
  refine ln_div hx hb ⟨by omega, by omega, by omega⟩ dX4_signAt_8 ?_
  refine lv_istore (lv' := [(4, .int (nI ((j * 6) / 8))), (3, .int (nI (j * 6))), (0, .ref h0), (1, .ref (g k)), (2, .int (nI j))]) hx hb dX4_signAt_9 hl (by decide) rfl (fun ls hl => ?_)
  refine lv_iload hx hb dX4_signAt_11 (lv_at hl 0 rfl) ?_
  refine lv_aload_n hx hb dX4_signAt_13 rfl (lv_at hl 2 rfl) ?_
  refine va_getN (D := D) (ci := 0) (v := .int (nI n)) (C := RX2) (T := TX2) (N := 2) hx hb hts hi_X2 hown hK hP 0 rfl rfl 1 (by decide) (va_Nw.use rfl (hG.2.2.2.2.2.2.2.1 _ (List.mem_of_getElem? (i := 2) rfl))) (fun _ h9 => h9) rfl dX4_signAt_14 ?_
  refine ln_icmp_lt (tgt := 23) hx hb ⟨by omega, by omega⟩ dX4_signAt_17 (by decide) (fun c_17 => ?_) (fun c_17 => ?_)
  · refine lv_aload_n hx hb dX4_signAt_23 rfl (lv_at hl 2 rfl) ?_
    refine lv_iload hx hb dX4_signAt_24 (lv_at hl 0 rfl) ?_
    refine ro_V (As := [.int (nI ((j * 6) / 8))]) (rest := []) (wc := [(h0, .inr (0, [.ref q0, .int (nI n)])), (q0, .inl (T 0, 440, .inl f))]) (r := .int (nI (atN n b ((j * 6) / 8)))) ⟨hx, hb, hml, hown, hts⟩ (c_X2_at l D T g h0 q0 f n ((j * 6) / 8) b hb9 (by omega)) (cwV 1 hts gX4_signAt_X2_at rfl rfl rfl (by decide +kernel) ⟨Nat.le_of_ble_eq_true rfl, Nat.le_of_ble_eq_true rfl⟩) (va_recv hK hP (ci := 0) (q0 := 0) rfl rfl) hP hK hG hS [0, 1] rfl ⟨Nat.zero_le _, Nat.zero_le _⟩ rfl hl.1 (Nat.le_of_ble_eq_true rfl) dX4_signAt_26 rfl ?_
    refine lv_bipush (v := (nI 8)) hx hb dX4_signAt_29 (by decide +kernel) ?_
    refine ln_shl hx hb ⟨by omega, by omega⟩ dX4_signAt_31 ?_
    refine lv_aload_n hx hb dX4_signAt_32 rfl (lv_at hl 2 rfl) ?_
    refine lv_iload hx hb dX4_signAt_33 (lv_at hl 0 rfl) ?_
    refine lv_iconst (v := (nI 1)) hx hb dX4_signAt_35 (by decide +kernel) ?_
    refine ln_add hx hb dX4_signAt_36 ?_
    refine ro_V (As := [.int (nI (((j * 6) / 8) + 1))]) (rest := [.int (nI ((atN n b ((j * 6) / 8)) * 2 ^ 8))]) (wc := [(h0, .inr (0, [.ref q0, .int (nI n)])), (q0, .inl (T 0, 440, .inl f))]) (r := .int (nI (atN n b (((j * 6) / 8) + 1)))) ⟨hx, hb, hml, hown, hts⟩ (c_X2_at l D T g h0 q0 f n (((j * 6) / 8) + 1) b hb9 (by omega)) (cwV 1 hts gX4_signAt_X2_at rfl rfl rfl (by decide +kernel) ⟨Nat.le_of_ble_eq_true rfl, Nat.le_of_ble_eq_true rfl⟩) (va_recv hK hP (ci := 0) (q0 := 0) rfl rfl) hP hK hG hS [0, 1] rfl ⟨Nat.zero_le _, Nat.zero_le _⟩ rfl hl.1 (Nat.le_of_ble_eq_true rfl) dX4_signAt_37 rfl ?_
    refine ln_or hx hb (v := atN n b (j * 6 / 8) * 256 + atN n b (j * 6 / 8 + 1)) (or8 ha2) dX4_signAt_40 ?_
    refine lv_istore (lv' := [(5, .int (nI (atN n b (j * 6 / 8) * 256 + atN n b (j * 6 / 8 + 1)))), (4, .int (nI ((j * 6) / 8))), (3, .int (nI (j * 6))), (0, .ref h0), (1, .ref (g k)), (2, .int (nI j))]) hx hb dX4_signAt_41 hl (by decide) rfl (fun ls hl => ?_)
    refine lv_aload_n hx hb dX4_signAt_43 rfl (lv_at hl 4 rfl) ?_
    refine lv_iload hx hb dX4_signAt_44 (lv_at hl 0 rfl) ?_
    refine lv_bipush (v := (nI 10)) hx hb dX4_signAt_46 (by decide +kernel) ?_
    refine lv_iload_n hx hb dX4_signAt_48 rfl (lv_at hl 2 rfl) ?_
    refine lv_bipush (v := (nI 8)) hx hb dX4_signAt_49 (by decide +kernel) ?_
    refine ln_rem hx hb ⟨by omega, by omega, by omega⟩ dX4_signAt_51 ?_
    refine ln_sub hx hb (by omega) dX4_signAt_52 ?_
    refine ln_shr hx hb ⟨by omega, by omega⟩ dX4_signAt_53 ?_
    refine lv_bipush (v := (nI 63)) hx hb dX4_signAt_54 (by decide +kernel) ?_
    refine ln_and hx hb 6 (Nat.lt_of_le_of_lt (Nat.div_le_self _ _) (by omega)) (by decide +kernel) dX4_signAt_56 ?_
    refine ro_V (As := [.int (nI (((atN n b (j * 6 / 8) * 256 + atN n b (j * 6 / 8 + 1)) / 2 ^ (10 - ((j * 6) % 8))) % 2 ^ 6))]) (rest := []) (wc := []) (r := .int (nI (letN k (((atN n b (j * 6 / 8) * 256 + atN n b (j * 6 / 8 + 1)) / 2 ^ (10 - ((j * 6) % 8))) % 2 ^ 6)))) ⟨hx, hb, hml, hown, hts⟩ (c_X0_letterOf l D T g k (((atN n b (j * 6 / 8) * 256 + atN n b (j * 6 / 8 + 1)) / 2 ^ (10 - ((j * 6) % 8))) % 2 ^ 6) hk (Nat.mod_lt _ (by decide))) (cwV 1 hts gX4_signAt_X0_letterOf rfl rfl rfl (by decide +kernel) ⟨Nat.le_of_ble_eq_true rfl, Nat.le_of_ble_eq_true rfl⟩) (va_recvE hG.1 (show _ < KN.length from hk) hS) hP hK hG hS [] rfl ⟨Nat.zero_le _, Nat.zero_le _⟩ rfl hl.1 (Nat.le_of_ble_eq_true rfl) dX4_signAt_57 rfl ?_
    exact W.iret (v := (nI (letN k (((atN n b (j * 6 / 8) * 256 + atN n b (j * 6 / 8 + 1)) / 2 ^ (10 - ((j * 6) % 8))) % 2 ^ 6)))) hx hb hr (fun t ht hW => ⟨(congrArg (fun z => Outcome.returned (some (Value.int z))) (show (nI (letN k (((atN n b (j * 6 / 8) * 256 + atN n b (j * 6 / 8 + 1)) / 2 ^ (10 - ((j * 6) % 8))) % 2 ^ 6))) = (nI (sgA k n b j)) from congrArg nI (if_neg (by omega)).symm)), ht⟩) (fun q h => nomatch h) dX4_signAt_60
  · refine lv_bipush (v := (nI 61)) hx hb dX4_signAt_20 (by decide +kernel) ?_
    exact W.iret (v := (nI 61)) hx hb hr (fun t ht hW => ⟨(congrArg (fun z => Outcome.returned (some (Value.int z))) (show (nI 61) = (nI (sgA k n b j)) from congrArg nI (if_pos (by omega)).symm)), ht⟩) (fun q h => nomatch h) dX4_signAt_22
set_option maxHeartbeats 4000000 in
set_option maxRecDepth 100000 in
/-- what is written at a place -/
theorem c_X4_writtenAt (l : Launch) (D : va_G) (T : Nat → ClassId) (g : Nat → Nat) (h0 : Nat) (q0 : Nat) (f : Nat → Int32) (n : Nat) (k : Nat) (j : Nat) (b : Nat → Nat) (hb9 : RB f n b) (hk : k < 3) (hj : j < 10000) : RO l yX4_writtenAt wsX4_writtenAt ({ frames := 2, cells := 0, slots := 0, locals := 46 } : Room) D T g [.ref h0, .ref (g k), .int (nI j)] [(h0, .inr (0, [.ref q0, .int (nI n)])), (q0, .inl (T 0, 440, .inl f))] (.int (nI (wrA k n b j))) := by
  refine Met.ofW (cc := cX4_writtenAt) (maxL := 5) (ret := (some .int)) (by decide) rfl ?_
  intro p e s m args below meth c s₁ B hml hv
  obtain ⟨rfl, hP, hK, hG⟩ := hv
  have hx := B.exec
  have hb := B.bytes
  have hr := B.returns
  have hts := atoms_spec (ws := wsX4_writtenAt) B.pre
  have hown : s.vm.findClass RX4 = some m.cls := findClass_of_methodNamed B.named
  have hlocks := B.notSynchronized
  have hS : va_S (fun _ => False) s.heap s.heap [] := va_S.rf
  have hl := lv_entry ([.ref h0, .ref (g k), .int (nI j)]) (n := 5) (Nat.le_of_ble_eq_true rfl)
  rw [lg_entry_eq]
  generalize (lg_sl ([.ref h0, .ref (g k), .int (nI j)]) ++ List.replicate (5 - (lg_sl ([.ref h0, .ref (g k), .int (nI j)])).length) Slot.unset).toArray = ls at hl ⊢
  have hl : lv_has ls 5 [(0, .ref h0), (1, .ref (g k)), (2, .int (nI j))] := hl
  have kh := kH_lt k
  refine lv_aload_n hx hb dX4_writtenAt_0 rfl (lv_at hl 1 rfl) ?_
  refine va_getEN hx hb hG.1 (show _ < KN.length from hk) hS hown (q := FK[2]) (List.mem_of_getElem? (i := 2) rfl) (va_Nw.use rfl (hG.2.2.2.2.2.2.2.1 _ (List.mem_of_getElem? (i := 5) rfl))) (fun _ h9 => h9) dX4_writtenAt_1 ?_
  rw [show (FK[2]).2.2.2.getD k 0 = nI (kH k) from k_f2 _ (hk)]
  refine ln_if_ne (tgt := 14) hx hb (by omega) dX4_writtenAt_4 (by decide) (fun c_4 => ?_) (fun c_4 => ?_)
  · refine lv_iload_n hx hb dX4_writtenAt_14 rfl (lv_at hl 2 rfl) ?_
    refine lv_bipush (v := (nI 78)) hx hb dX4_writtenAt_15 (by decide +kernel) ?_
    refine ln_div hx hb ⟨by omega, by omega, by omega⟩ dX4_writtenAt_17 ?_
    refine lv_istore_n (lv' := [(3, .int (nI (j / 78))), (0, .ref h0), (1, .ref (g k)), (2, .int (nI j))]) hx hb dX4_writtenAt_18 rfl hl (by decide) rfl (fun ls hl => ?_)
    refine lv_iload_n hx hb dX4_writtenAt_19 rfl (lv_at hl 3 rfl) ?_
    refine lv_bipush (v := (nI 78)) hx hb dX4_writtenAt_20 (by decide +kernel) ?_
    refine ln_rem hx hb ⟨by omega, by omega, by omega⟩ dX4_writtenAt_22 ?_
    refine lv_istore (lv' := [(4, .int (nI (j % 78))), (3, .int (nI (j / 78))), (0, .ref h0), (1, .ref (g k)), (2, .int (nI j))]) hx hb dX4_writtenAt_23 hl (by decide) rfl (fun ls hl => ?_)
    refine lv_iload hx hb dX4_writtenAt_25 (lv_at hl 0 rfl) ?_
    refine lv_bipush (v := (nI 76)) hx hb dX4_writtenAt_27 (by decide +kernel) ?_
    refine ln_icmp_ge (tgt := 45) hx hb ⟨by omega, by omega⟩ dX4_writtenAt_29 (by decide) (fun c_29 => ?_) (fun c_29 => ?_)
    · refine lv_iload hx hb dX4_writtenAt_45 (lv_at hl 0 rfl) ?_
      refine lv_bipush (v := (nI 76)) hx hb dX4_writtenAt_47 (by decide +kernel) ?_
      refine ln_icmp_ne (tgt := 57) hx hb ⟨by omega, by omega⟩ dX4_writtenAt_49 (by decide) (fun c_49 => ?_) (fun c_49 => ?_)
      · refine lv_bipush (v := (nI 10)) hx hb dX4_writtenAt_57 (by decide +kernel) ?_
        exact W.iret (v := (nI 10)) hx hb hr (fun t ht hW => ⟨(congrArg (fun z => Outcome.returned (some (Value.int z))) (show (nI 10) = (nI (wrA k n b j)) from congrArg nI (by unfold wrA; rw [if_pos (Decidable.not_not.mp (fun q => c_4 (kH_2.mpr q))), if_neg (by omega), if_neg (by omega)]))), ht⟩) (fun q h => nomatch h) dX4_writtenAt_59
      · refine lv_bipush (v := (nI 13)) hx hb dX4_writtenAt_52 (by decide +kernel) ?_
        refine lv_goto (tgt := 59) hx hb dX4_writtenAt_54 (by decide) ?_
        exact W.iret (v := (nI 13)) hx hb hr (fun t ht hW => ⟨(congrArg (fun z => Outcome.returned (some (Value.int z))) (show (nI 13) = (nI (wrA k n b j)) from congrArg nI (by unfold wrA; rw [if_pos (Decidable.not_not.mp (fun q => c_4 (kH_2.mpr q))), if_neg (by omega), if_pos (by omega)]))), ht⟩) (fun q h => nomatch h) dX4_writtenAt_59
    · refine lv_aload_n hx hb dX4_writtenAt_32 rfl (lv_at hl 2 rfl) ?_
      refine lv_aload_n hx hb dX4_writtenAt_33 rfl (lv_at hl 3 rfl) ?_
      refine lv_iload_n hx hb dX4_writtenAt_34 rfl (lv_at hl 1 rfl) ?_
      refine lv_bipush (v := (nI 76)) hx hb dX4_writtenAt_35 (by decide +kernel) ?_
      refine ln_mul hx hb dX4_writtenAt_37 ?_
      refine lv_iload hx hb dX4_writtenAt_38 (lv_at hl 0 rfl) ?_
      refine ln_add hx hb dX4_writtenAt_40 ?_
      refine ro_S (As := [.ref h0, .ref (g k), .int (nI (((j / 78) * 76) + (j % 78)))]) (rest := []) (wc := [(h0, .inr (0, [.ref q0, .int (nI n)])), (q0, .inl (T 0, 440, .inl f))]) (r := .int (nI (sgA k n b (((j / 78) * 76) + (j % 78))))) ⟨hx, hb, hml, hown, hts⟩ (c_X4_signAt l D T g h0 q0 f n k (((j / 78) * 76) + (j % 78)) b hb9 hk (by omega)) (va_cwS 3 hts gX4_writtenAt_X4_signAt rfl rfl rfl (by decide +kernel) ⟨Nat.le_of_ble_eq_true rfl, Nat.le_of_ble_eq_true rfl⟩) hP hK hG hS [0, 1] rfl ⟨Nat.zero_le _, Nat.zero_le _⟩ rfl hl.1 (Nat.le_of_ble_eq_true rfl) dX4_writtenAt_41 rfl ?_
      exact W.iret (v := (nI (sgA k n b (((j / 78) * 76) + (j % 78))))) hx hb hr (fun t ht hW => ⟨(congrArg (fun z => Outcome.returned (some (Value.int z))) (show (nI (sgA k n b (((j / 78) * 76) + (j % 78)))) = (nI (wrA k n b j)) from congrArg nI (by unfold wrA; rw [if_pos (Decidable.not_not.mp (fun q => c_4 (kH_2.mpr q))), if_pos (by omega)]))), ht⟩) (fun q h => nomatch h) dX4_writtenAt_44
  · refine lv_aload_n hx hb dX4_writtenAt_7 rfl (lv_at hl 0 rfl) ?_
    refine lv_aload_n hx hb dX4_writtenAt_8 rfl (lv_at hl 1 rfl) ?_
    refine lv_iload_n hx hb dX4_writtenAt_9 rfl (lv_at hl 2 rfl) ?_
    refine ro_S (As := [.ref h0, .ref (g k), .int (nI j)]) (rest := []) (wc := [(h0, .inr (0, [.ref q0, .int (nI n)])), (q0, .inl (T 0, 440, .inl f))]) (r := .int (nI (sgA k n b j))) ⟨hx, hb, hml, hown, hts⟩ (c_X4_signAt l D T g h0 q0 f n k j b hb9 hk (by omega)) (va_cwS 3 hts gX4_writtenAt_X4_signAt rfl rfl rfl (by decide +kernel) ⟨Nat.le_of_ble_eq_true rfl, Nat.le_of_ble_eq_true rfl⟩) hP hK hG hS [0, 1] rfl ⟨Nat.zero_le _, Nat.zero_le _⟩ rfl hl.1 (Nat.le_of_ble_eq_true rfl) dX4_writtenAt_10 rfl ?_
    exact W.iret (v := (nI (sgA k n b j))) hx hb hr (fun t ht hW => ⟨(congrArg (fun z => Outcome.returned (some (Value.int z))) (show (nI (sgA k n b j)) = (nI (wrA k n b j)) from congrArg nI (if_neg (kH_2.mp c_4)).symm)), ht⟩) (fun q h => nomatch h) dX4_writtenAt_13
set_option maxHeartbeats 4000000 in
set_option maxRecDepth 100000 in
/-- writes a row into another -/
theorem c_X4_writeBytes (l : Launch) (D : va_G) (T : Nat → ClassId) (g : Nat → Nat) (sz : Nat) (h0 : Nat) (q0 : Nat) (f : Nat → Int32) (n : Nat) (k : Nat) (fl : Nat) (h1 : Nat) (q1 : Nat) (f1 : Nat → Int32) (n1 : Nat) (b : Nat → Nat) (hb9 : RB f n b) (hk : k < 3) (hn : n ≤ 320 ∧ fl < 2) : MU l yX4_writeBytes wsX4_writeBytes ({ frames := 3, cells := 0, slots := 0, locals := 70 } : Room) D T g [.ref h0, .ref (g k), .int (nI fl), .ref h1] [(h0, .inr (0, [.ref q0, .int (nI n)])), (q0, .inl (T 0, 440, .inl f)), (h1, .inr (0, [.ref q1, .int (nI n1)])), (q1, .inl (T 0, 440, .inl f1))] sz (fun u : Nat → Int32 => none) (fun u : Nat → Int32 => RB u (lnN k n fl) (wrA k n b)) (fun u : Nat → Int32 => [(h0, .inr (0, [.ref q0, .int (nI n)])), (q0, .inl (T 0, 440, .inl f)), (h1, .inr (0, [.ref q1, .int (nI (lnN k n fl))])), (q1, .inl (T 0, 440, .inl u))]) 0 0 := by
  refine Met.ofW (cc := cX4_writeBytes) (maxL := 6) (ret := none) (by decide) rfl ?_
  intro p e s m args below meth c s₁ B hml hv
  obtain ⟨rfl, hsz, hP, hK, hD0, hG⟩ := hv
  have hx := B.exec
  have hb := B.bytes
  have hr := B.returns
  have hts := atoms_spec (ws := wsX4_writeBytes) B.pre
  have hown : s.vm.findClass RX4 = some m.cls := findClass_of_methodNamed B.named
  have hlocks := B.notSynchronized
  have hi_X2 : ∀ w ∈ wsX20, w ∈ wsX4_writeBytes := by decide +kernel
  subst hsz
  have hD := hD0.self (sz := s.heap.size)
  generalize hAe : va_A [(h0, .inr (0, [.ref q0, .int (nI n)])), (q0, .inl (T 0, 440, .inl f)), (h1, .inr (0, [.ref q1, .int (nI n1)])), (q1, .inl (T 0, 440, .inl f1))] s.heap.size = A at hD hG ⊢
  have hA : ∀ q : Nat, s.heap.size ≤ q → A q := fun q h => by rw [← hAe]; exact Or.inr h
  have hS : va_S A s.heap s.heap [] := va_S.rf
  have hP : va_P D cls [(h0, .inr (0, [.ref q0, .int (nI n)])), (q0, .inl (T 0, 440, .inl f)), (h1, .inr (0, [.ref q1, .int (nI n1)])), (q1, .inl (T 0, 440, .inl f1))] s.heap := hP
  have hl := lv_entry ([.ref h0, .ref (g k), .int (nI fl), .ref h1]) (n := 6) (Nat.le_of_ble_eq_true rfl)
  rw [lg_entry_eq]
  generalize (lg_sl ([.ref h0, .ref (g k), .int (nI fl), .ref h1]) ++ List.replicate (6 - (lg_sl ([.ref h0, .ref (g k), .int (nI fl), .ref h1])).length) Slot.unset).toArray = ls at hl ⊢
  have hl : lv_has ls 6 [(0, .ref h0), (1, .ref (g k)), (2, .int (nI fl)), (3, .ref h1)] := hl
  have hle := lnN_le (k := k) (fl := fl) hn.1
  refine lv_aload_n hx hb dX4_writeBytes_0 rfl (lv_at hl 0 rfl) ?_
  refine va_getN (D := D) (ci := 0) (v := .int (nI n)) (C := RX2) (T := TX2) (N := 2) hx hb hts hi_X2 hown hK hP 0 rfl rfl 1 (by decide) (va_Nw.use rfl (hG.2.2.2.2.2.2.2.1 _ (List.mem_of_getElem? (i := 2) rfl))) (fun _ h9 => h9) rfl dX4_writeBytes_1 ?_
  refine lv_aload_n hx hb dX4_writeBytes_4 rfl (lv_at hl 1 rfl) ?_
  refine lv_iload_n hx hb dX4_writeBytes_5 rfl (lv_at hl 2 rfl) ?_
  refine ro_S (As := [.int (nI n), .ref (g k), .int (nI fl)]) (rest := []) (wc := []) (r := .int (nI (lnN k n fl))) ⟨hx, hb, hml, hown, hts⟩ (c_X4_lengthOf l D T g n k fl hk hn) (va_cwS 3 hts gX4_writeBytes_X4_lengthOf rfl rfl rfl (by decide +kernel) ⟨Nat.le_of_ble_eq_true rfl, Nat.le_of_ble_eq_true rfl⟩) hP hK hG hS [] rfl ⟨Nat.zero_le _, Nat.zero_le _⟩ rfl hl.1 (Nat.le_of_ble_eq_true rfl) dX4_writeBytes_6 rfl ?_
  refine lv_istore (lv' := [(4, .int (nI (lnN k n fl))), (0, .ref h0), (1, .ref (g k)), (2, .int (nI fl)), (3, .ref h1)]) hx hb dX4_writeBytes_9 hl (by decide) rfl (fun ls hl => ?_)
  refine lv_aload_n hx hb dX4_writeBytes_11 rfl (lv_at hl 4 rfl) ?_
  refine mu_V (As := []) (rest := []) (wc := [(h1, .inr (0, [.ref q1, .int (nI n1)])), (q1, .inl (T 0, 440, .inl f1))]) (wr := [(h0, .inr (0, [.ref q0, .int (nI n)])), (q0, .inl (T 0, 440, .inl f))]) ⟨hx, hb, hml, hown, hts⟩ (c_X2_clear l D T g s.heap.size h1 q1 f1 n1) (cwV 0 hts gX4_writeBytes_X2_clear rfl rfl rfl (by decide +kernel) ⟨Nat.le_of_ble_eq_true rfl, Nat.le_of_ble_eq_true rfl⟩) (va_recv hK hP (ci := 0) (q0 := 2) rfl rfl) hP hD hK hG hS hA [2, 3] [0, 1] rfl (by decide) rfl (by decide) (by decide) ⟨Nat.le_of_ble_eq_true rfl, Nat.le_of_ble_eq_true rfl⟩ rfl hl.1 (Nat.le_of_ble_eq_true rfl) dX4_writeBytes_12 rfl (fun u H locs hq1 hP hD hS => ?_)
  have hP : va_P D cls [(h0, .inr (0, [.ref q0, .int (nI n)])), (q0, .inl (T 0, 440, .inl f)), (h1, .inr (0, [.ref q1, .int (nI 0)])), (q1, .inl (T 0, 440, .inl f1))] H := hP
  have hD : va_D A [(h0, .inr (0, [.ref q0, .int (nI n)])), (q0, .inl (T 0, 440, .inl f)), (h1, .inr (0, [.ref q1, .int (nI 0)])), (q1, .inl (T 0, 440, .inl f1))] := hD
  refine W.eq (g2 := F0 m 15 ls []) rfl ?_
  refine lv_iconst (v := (nI 0)) hx hb dX4_writeBytes_15 (by decide +kernel) ?_
  refine lv_istore (lv' := [(5, .int (nI 0)), (4, .int (nI (lnN k n fl))), (0, .ref h0), (1, .ref (g k)), (2, .int (nI fl)), (3, .ref h1)]) hx hb dX4_writeBytes_16 hl (by decide) rfl (fun ls hl => ?_)
  have K2 : ∀ (N9 : Nat) (i : Nat) (F : Nat → Int32), (i ≤ lnN k n fl) → (RB F i (wrA k n b)) → lnN k n fl - i < N9 → ∀ (H : Heap) (locs : List Loc), va_P D cls [(h0, .inr (0, [.ref q0, .int (nI n)])), (q0, .inl (T 0, 440, .inl f)), (h1, .inr (0, [.ref q1, .int (nI i)])), (q1, .inl (T 0, 440, .inl F))] H → va_D A [(h0, .inr (0, [.ref q0, .int (nI n)])), (q0, .inl (T 0, 440, .inl f)), (h1, .inr (0, [.ref q1, .int (nI i)])), (q1, .inl (T 0, 440, .inl F))] → va_S A s.heap H locs → ∀ ls : Array Slot, lv_has ls 6 [(0, .ref h0), (1, .ref (g k)), (3, .ref h1), (4, .int (nI (lnN k n fl))), (5, .int (nI i))] → W p l e (headSpec wsX4_writeBytes ({ frames := 3, cells := 0, slots := 0, locals := 70 } : Room)).room s m ([.ref h0, .ref (g k), .int (nI fl), .ref h1] : List Value).toArray below meth c H locs 0 0 (MQ below (QM D T A (fun u : Nat → Int32 => none) (fun u : Nat → Int32 => RB u (lnN k n fl) (wrA k n b)) (fun u : Nat → Int32 => [(h0, .inr (0, [.ref q0, .int (nI n)])), (q0, .inl (T 0, 440, .inl f)), (h1, .inr (0, [.ref q1, .int (nI (lnN k n fl))])), (q1, .inl (T 0, 440, .inl u))])) ([.ref h0, .ref (g k), .int (nI fl), .ref h1] : List Value).toArray s 0 0 A) (F0 m 18 ls []) := by
    intro N9
    induction N9 with
    | zero => intro i F hi hF h9; exact absurd h9 (Nat.not_lt_zero _)
    | succ N9 ih =>
      intro i F hi hF h9 H locs hP hD hS ls hl
      refine lv_iload hx hb dX4_writeBytes_18 (lv_at hl 4 rfl) ?_
      refine lv_iload hx hb dX4_writeBytes_20 (lv_at hl 3 rfl) ?_
      refine ln_icmp_ge (tgt := 42) hx hb ⟨by omega, by omega⟩ dX4_writeBytes_22 (by decide) (fun c_22 => ?_) (fun c_22 => ?_)
      · have e9 : lnN k n fl = i := by omega
        have hF : RB F (lnN k n fl) (wrA k n b) := by rw [e9]; exact hF
        rw [← e9] at hP hD
        have hP9 := hP.sub (ws' := [(h0, .inr (0, [.ref q0, .int (nI n)])), (q0, .inl (T 0, 440, .inl f)), (h1, .inr (0, [.ref q1, .int (nI (lnN k n fl))])), (q1, .inl (T 0, 440, .inl F))]) [0, 1, 2, 3] rfl
        have hD9 := hD.sub (ws' := [(h0, .inr (0, [.ref q0, .int (nI n)])), (q0, .inl (T 0, 440, .inl f)), (h1, .inr (0, [.ref q1, .int (nI (lnN k n fl))])), (q1, .inl (T 0, 440, .inl F))]) [0, 1, 2, 3] (by decide) rfl
        exact W.vret hx hb hr (fun t ht hW => ⟨⟨F, rfl, hF, (by rw [ht]; exact hP9), va_K.moved hW.alike hK, hD9⟩, hS.F ht⟩) hS.2.2 dX4_writeBytes_42
      · refine lv_aload_n hx hb dX4_writeBytes_25 rfl (lv_at hl 2 rfl) ?_
        refine lv_aload_n hx hb dX4_writeBytes_26 rfl (lv_at hl 0 rfl) ?_
        refine lv_aload_n hx hb dX4_writeBytes_27 rfl (lv_at hl 1 rfl) ?_
        refine lv_iload hx hb dX4_writeBytes_28 (lv_at hl 4 rfl) ?_
        have hw9 := wrA_lt k n b i
        refine ro_S (As := [.ref h0, .ref (g k), .int (nI i)]) (rest := [.ref h1]) (wc := [(h0, .inr (0, [.ref q0, .int (nI n)])), (q0, .inl (T 0, 440, .inl f))]) (r := .int (nI (wrA k n b i))) ⟨hx, hb, hml, hown, hts⟩ (c_X4_writtenAt l D T g h0 q0 f n k i b hb9 hk (by omega)) (va_cwS 3 hts gX4_writeBytes_X4_writtenAt rfl rfl rfl (by decide +kernel) ⟨Nat.le_of_ble_eq_true rfl, Nat.le_of_ble_eq_true rfl⟩) hP hK hG hS [0, 1] rfl ⟨Nat.zero_le _, Nat.zero_le _⟩ rfl hl.1 (Nat.le_of_ble_eq_true rfl) dX4_writeBytes_30 rfl ?_
        refine mu_V (As := [.int (nI (wrA k n b i))]) (rest := []) (wc := [(h1, .inr (0, [.ref q1, .int (nI i)])), (q1, .inl (T 0, 440, .inl F))]) (wr := [(h0, .inr (0, [.ref q0, .int (nI n)])), (q0, .inl (T 0, 440, .inl f))]) ⟨hx, hb, hml, hown, hts⟩ (c_X2_append l D T g H.size h1 q1 F i (nI (wrA k n b i)) (by omega)) (cwV 1 hts gX4_writeBytes_X2_append rfl rfl rfl (by decide +kernel) ⟨Nat.le_of_ble_eq_true rfl, Nat.le_of_ble_eq_true rfl⟩) (va_recv hK hP (ci := 0) (q0 := 2) rfl rfl) hP hD hK hG hS hA [2, 3] [0, 1] rfl (by decide) rfl (by decide) (by decide) ⟨Nat.le_of_ble_eq_true rfl, Nat.le_of_ble_eq_true rfl⟩ rfl hl.1 (Nat.le_of_ble_eq_true rfl) dX4_writeBytes_33 rfl (fun u H locs hq3 hP hD hS => ?_)
        have hP : va_P D cls [(h0, .inr (0, [.ref q0, .int (nI n)])), (q0, .inl (T 0, 440, .inl f)), (h1, .inr (0, [.ref q1, .int (nI (i + 1))])), (q1, .inl (T 0, 440, .inl (upd F i (nI (wrA k n b i)))))] H := hP
        have hD : va_D A [(h0, .inr (0, [.ref q0, .int (nI n)])), (q0, .inl (T 0, 440, .inl f)), (h1, .inr (0, [.ref q1, .int (nI (i + 1))])), (q1, .inl (T 0, 440, .inl (upd F i (nI (wrA k n b i)))))] := hD
        refine W.eq (g2 := F0 m 36 ls []) rfl ?_
        refine lv_iinc (v := (nI (i + 1))) (lv' := [(5, .int (nI (i + 1))), (0, .ref h0), (1, .ref (g k)), (3, .ref h1), (4, .int (nI (lnN k n fl)))]) hx hb dX4_writeBytes_36 hl (k := 4) rfl (ni_inc1 _) (by decide) rfl (fun ls hl => ?_)
        refine lv_goto (tgt := 18) hx hb dX4_writeBytes_39 (by decide) ?_
        exact ih (i + 1) (upd F i (nI (wrA k n b i))) (by omega) (RB_next hF (by omega) rfl (by omega)) (by omega) _ _ (hP.sub (ws' := [(h0, .inr (0, [.ref q0, .int (nI n)])), (q0, .inl (T 0, 440, .inl f)), (h1, .inr (0, [.ref q1, .int (nI (i + 1))])), (q1, .inl (T 0, 440, .inl (upd F i (nI (wrA k n b i)))))]) [0, 1, 2, 3] rfl) (hD.sub (ws' := [(h0, .inr (0, [.ref q0, .int (nI n)])), (q0, .inl (T 0, 440, .inl f)), (h1, .inr (0, [.ref q1, .int (nI (i + 1))])), (q1, .inl (T 0, 440, .inl (upd F i (nI (wrA k n b i)))))]) [0, 1, 2, 3] (by decide) rfl) hS ls (lv_sub hl [1, 2, 3, 4, 0] rfl)
  exact K2 _ 0 f1 (by omega) (RB_zero _ _) (Nat.lt_succ_self _) H locs (hP.sub (ws' := [(h0, .inr (0, [.ref q0, .int (nI n)])), (q0, .inl (T 0, 440, .inl f)), (h1, .inr (0, [.ref q1, .int (nI 0)])), (q1, .inl (T 0, 440, .inl f1))]) [0, 1, 2, 3] rfl) (hD.sub (ws' := [(h0, .inr (0, [.ref q0, .int (nI n)])), (q0, .inl (T 0, 440, .inl f)), (h1, .inr (0, [.ref q1, .int (nI 0)])), (q1, .inl (T 0, 440, .inl f1))]) [0, 1, 2, 3] (by decide) rfl) hS ls (lv_sub hl [2, 3, 5, 1, 0] rfl)
