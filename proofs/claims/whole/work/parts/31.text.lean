set_option maxHeartbeats 4000000 in
set_option maxRecDepth 100000 in
/-- AbstractStringBuilder.length -/
theorem c_J5_length (l : Launch) (D : va_G) (T : Nat → ClassId) (g : Nat → Nat) (t0 : Nat) (tv : Nat) (ml : Int32) (cnt : Nat) (cap : Nat) (fb : Nat → Int32) : RO l yJ5_length_8abf5 wsJ5_length_8abf5 ({ frames := 0, cells := 0, slots := 0, locals := 0 } : Room) D T g [.ref t0] [(t0, .inr (4, [.ref tv, .int (nI 0), .int ml, .int (nI cnt)])), (tv, .inl (T 1, cap, .inl fb))] (.int (nI cnt)) := by
  refine Met.ofW (cc := cJ5_length_8abf5) (maxL := 1) (ret := (some .int)) (by decide) rfl ?_
  intro p e s m args below meth c s₁ B hml hv
  obtain ⟨rfl, hP, hK, hG⟩ := hv
  have hx := B.exec
  have hb := B.bytes
  have hr := B.returns
  have hts := atoms_spec (ws := wsJ5_length_8abf5) B.pre
  have hown : s.vm.findClass RJ5 = some m.cls := findClass_of_methodNamed B.named
  have hlocks := B.notSynchronized
  have hi_J4 : ∀ w ∈ wsJ40, w ∈ wsJ5_length_8abf5 := by decide +kernel
  have hS : va_S (fun _ => False) s.heap s.heap [] := va_S.rf
  have hl := lv_entry ([.ref t0]) (n := 1) (Nat.le_of_ble_eq_true rfl)
  rw [lg_entry_eq]
  generalize (lg_sl ([.ref t0]) ++ List.replicate (1 - (lg_sl ([.ref t0])).length) Slot.unset).toArray = ls at hl ⊢
  have hl : lv_has ls 1 [(0, .ref t0)] := hl
  refine lv_aload_n hx hb dJ5_length_8abf5_0 rfl (lv_at hl 0 rfl) ?_
  refine va_get (D := D) (ci := 4) (v := .int (nI cnt)) (C := RJ4) (T := TJ4) (N := 4) hx hb hts hi_J4 hown hK hP 0 rfl rfl 3 (by decide) (hts _ (List.mem_of_getElem? (i := 1) rfl)) (fun _ h9 => h9) rfl dJ5_length_8abf5_1 ?_
  exact W.iret (v := (nI cnt)) hx hb hr (fun t ht hW => ⟨(congrArg (fun z => Outcome.returned (some (Value.int z))) (show (nI cnt) = (nI cnt) from rfl)), ht⟩) (fun q h => nomatch h) dJ5_length_8abf5_4
set_option maxHeartbeats 4000000 in
set_option maxRecDepth 100000 in
theorem c_J4_length (l : Launch) (D : va_G) (T : Nat → ClassId) (g : Nat → Nat) (t0 : Nat) (tv : Nat) (ml : Int32) (cnt : Nat) (cap : Nat) (fb : Nat → Int32) : RO l yJ4_length_8abf5 wsJ4_length_8abf5 ({ frames := 1, cells := 0, slots := 0, locals := 20 } : Room) D T g [.ref t0] [(t0, .inr (4, [.ref tv, .int (nI 0), .int ml, .int (nI cnt)])), (tv, .inl (T 1, cap, .inl fb))] (.int (nI cnt)) := by
  refine Met.ofW (cc := cJ4_length_8abf5) (maxL := 1) (ret := (some .int)) (by decide) rfl ?_
  intro p e s m args below meth c s₁ B hml hv
  obtain ⟨rfl, hP, hK, hG⟩ := hv
  have hx := B.exec
  have hb := B.bytes
  have hr := B.returns
  have hts := atoms_spec (ws := wsJ4_length_8abf5) B.pre
  have hown : s.vm.findClass RJ4 = some m.cls := findClass_of_methodNamed B.named
  have hlocks := B.notSynchronized
  have hS : va_S (fun _ => False) s.heap s.heap [] := va_S.rf
  have hl := lv_entry ([.ref t0]) (n := 1) (Nat.le_of_ble_eq_true rfl)
  rw [lg_entry_eq]
  generalize (lg_sl ([.ref t0]) ++ List.replicate (1 - (lg_sl ([.ref t0])).length) Slot.unset).toArray = ls at hl ⊢
  have hl : lv_has ls 1 [(0, .ref t0)] := hl
  refine lv_aload_n hx hb dJ4_length_8abf5_0 rfl (lv_at hl 0 rfl) ?_
  refine ro_SU (va_classAt hK (ci := 4) rfl) (As := []) (rest := []) (wc := [(t0, .inr (4, [.ref tv, .int (nI 0), .int ml, .int (nI cnt)])), (tv, .inl (T 1, cap, .inl fb))]) (r := .int (nI cnt)) ⟨hx, hb, hml, hown, hts⟩ (c_J5_length l D T g t0 tv ml cnt cap fb) (va_cwSU 0 hts gJ4_length_8abf5_J5_length_8abf5_s343 rfl rfl rfl (by decide +kernel) ⟨Nat.le_of_ble_eq_true rfl, Nat.le_of_ble_eq_true rfl⟩) (va_recv hK hP (ci := 4) (q0 := 0) rfl rfl) hP hK hG hS [0, 1] rfl ⟨Nat.zero_le _, Nat.zero_le _⟩ rfl hl.1 (Nat.le_of_ble_eq_true rfl) dJ4_length_8abf5_1 rfl ?_
  exact W.iret (v := (nI cnt)) hx hb hr (fun t ht hW => ⟨(congrArg (fun z => Outcome.returned (some (Value.int z))) (show (nI cnt) = (nI cnt) from rfl)), ht⟩) (fun q h => nomatch h) dJ4_length_8abf5_4
set_option maxHeartbeats 4000000 in
set_option maxRecDepth 100000 in
theorem c_J5_isLatin1 (l : Launch) (D : va_G) (T : Nat → ClassId) (g : Nat → Nat) (t0 : Nat) (tv : Nat) (ml : Int32) (cnt : Nat) (cap : Nat) (fb : Nat → Int32) : RO l yJ5_isLatin1_aae02 wsJ5_isLatin1_aae02 ({ frames := 0, cells := 0, slots := 0, locals := 0 } : Room) D T g [.ref t0] [(t0, .inr (4, [.ref tv, .int (nI 0), .int ml, .int (nI cnt)])), (tv, .inl (T 1, cap, .inl fb))] (.int (nI 1)) := by
  refine Met.ofW (cc := cJ5_isLatin1_aae02) (maxL := 1) (ret := (some .boolean)) (by decide) rfl ?_
  intro p e s m args below meth c s₁ B hml hv
  obtain ⟨rfl, hP, hK, hG⟩ := hv
  have hx := B.exec
  have hb := B.bytes
  have hr := B.returns
  have hts := atoms_spec (ws := wsJ5_isLatin1_aae02) B.pre
  have hown : s.vm.findClass RJ5 = some m.cls := findClass_of_methodNamed B.named
  have hlocks := B.notSynchronized
  have hi_J4 : ∀ w ∈ wsJ40, w ∈ wsJ5_isLatin1_aae02 := by decide +kernel
  have hS : va_S (fun _ => False) s.heap s.heap [] := va_S.rf
  have hl := lv_entry ([.ref t0]) (n := 1) (Nat.le_of_ble_eq_true rfl)
  rw [lg_entry_eq]
  generalize (lg_sl ([.ref t0]) ++ List.replicate (1 - (lg_sl ([.ref t0])).length) Slot.unset).toArray = ls at hl ⊢
  have hl : lv_has ls 1 [(0, .ref t0)] := hl
  refine va_gets hx hb hG.2.2.2.1 hS hown (hts _ (List.mem_of_getElem? (i := 1) rfl)) (fun _ h9 => h9) dJ5_isLatin1_aae02_0 ?_
  refine W.eq (g2 := F0 m 3 ls [.int (nI 1)]) rfl ?_
  refine ln_if_eq_f (tgt := 17) hx hb (by omega) (by decide) dJ5_isLatin1_aae02_3 (by decide) ?_
  refine lv_aload_n hx hb dJ5_isLatin1_aae02_6 rfl (lv_at hl 0 rfl) ?_
  refine va_get (D := D) (ci := 4) (v := .int (nI 0)) (C := RJ4) (T := TJ4) (N := 4) hx hb hts hi_J4 hown hK hP 0 rfl rfl 1 (by decide) (hts _ (List.mem_of_getElem? (i := 2) rfl)) (fun _ h9 => h9) rfl dJ5_isLatin1_aae02_7 ?_
  refine ln_if_ne_f (tgt := 17) hx hb (by omega) (rfl) dJ5_isLatin1_aae02_10 (by decide) ?_
  refine lv_iconst (v := (nI 1)) hx hb dJ5_isLatin1_aae02_13 (by decide +kernel) ?_
  refine lv_goto (tgt := 18) hx hb dJ5_isLatin1_aae02_14 (by decide) ?_
  exact W.zret (v := (nI 1)) (ty := .boolean) hx hb hr (rfl) (fun t ht hW => ⟨(congrArg (fun z => Outcome.returned (some (Value.int z))) (show (nI 1) = (nI 1) from rfl)), ht⟩) (fun q h => nomatch h) dJ5_isLatin1_aae02_18
set_option maxHeartbeats 4000000 in
set_option maxRecDepth 100000 in
theorem c_J3_checkIndex_r (l : Launch) (D : va_G) (T : Nat → ClassId) (g : Nat → Nat) (i : Nat) (n : Nat) (z9 : Nat) (hi : i < n ∧ n < 2 ^ 31) : RO l yJ3_checkIndex_8e157 wsJ3_checkIndex_8e157 ({ frames := 0, cells := 0, slots := 0, locals := 0 } : Room) D T g [.int (nI i), .int (nI n), .ref z9] [] (.int (nI i)) := by
  refine Met.ofW (cc := cJ3_checkIndex_8e157) (maxL := 3) (ret := (some .int)) (by decide) rfl ?_
  intro p e s m args below meth c s₁ B hml hv
  obtain ⟨rfl, hP, hK, hG⟩ := hv
  have hx := B.exec
  have hb := B.bytes
  have hr := B.returns
  have hts := atoms_spec (ws := wsJ3_checkIndex_8e157) B.pre
  have hown : s.vm.findClass RJ3 = some m.cls := findClass_of_methodNamed B.named
  have hlocks := B.notSynchronized
  have hS : va_S (fun _ => False) s.heap s.heap [] := va_S.rf
  have hl := lv_entry ([.int (nI i), .int (nI n), .ref z9]) (n := 3) (Nat.le_of_ble_eq_true rfl)
  rw [lg_entry_eq]
  generalize (lg_sl ([.int (nI i), .int (nI n), .ref z9]) ++ List.replicate (3 - (lg_sl ([.int (nI i), .int (nI n), .ref z9])).length) Slot.unset).toArray = ls at hl ⊢
  have hl : lv_has ls 3 [(0, .int (nI i)), (1, .int (nI n)), (2, .ref z9)] := hl
  refine lv_iload_n hx hb dJ3_checkIndex_8e157_0 rfl (lv_at hl 0 rfl) ?_
  refine ln_if_lt_f (tgt := 9) hx hb (by omega) dJ3_checkIndex_8e157_1 (by decide) ?_
  refine lv_iload_n hx hb dJ3_checkIndex_8e157_4 rfl (lv_at hl 0 rfl) ?_
  refine lv_iload_n hx hb dJ3_checkIndex_8e157_5 rfl (lv_at hl 1 rfl) ?_
  refine ln_icmp_lt_t (tgt := 16) hx hb ⟨by omega, by omega⟩ (hi.1) dJ3_checkIndex_8e157_6 (by decide) ?_
  refine lv_iload_n hx hb dJ3_checkIndex_8e157_16 rfl (lv_at hl 0 rfl) ?_
  exact W.iret (v := (nI i)) hx hb hr (fun t ht hW => ⟨(congrArg (fun z => Outcome.returned (some (Value.int z))) (show (nI i) = (nI i) from rfl)), ht⟩) (fun q h => nomatch h) dJ3_checkIndex_8e157_17
set_option maxHeartbeats 4000000 in
set_option maxRecDepth 100000 in
theorem c_J3_checkIndex_n (l : Launch) (D : va_G) (T : Nat → ClassId) (g : Nat → Nat) (i : Nat) (n : Nat) (hi : i < n ∧ n < 2 ^ 31) : RO l yJ3_checkIndex_8e157 wsJ3_checkIndex_8e157 ({ frames := 0, cells := 0, slots := 0, locals := 0 } : Room) D T g [.int (nI i), .int (nI n), .null] [] (.int (nI i)) := by
  refine Met.ofW (cc := cJ3_checkIndex_8e157) (maxL := 3) (ret := (some .int)) (by decide) rfl ?_
  intro p e s m args below meth c s₁ B hml hv
  obtain ⟨rfl, hP, hK, hG⟩ := hv
  have hx := B.exec
  have hb := B.bytes
  have hr := B.returns
  have hts := atoms_spec (ws := wsJ3_checkIndex_8e157) B.pre
  have hown : s.vm.findClass RJ3 = some m.cls := findClass_of_methodNamed B.named
  have hlocks := B.notSynchronized
  have hS : va_S (fun _ => False) s.heap s.heap [] := va_S.rf
  have hl := lv_entry ([.int (nI i), .int (nI n), .null]) (n := 3) (Nat.le_of_ble_eq_true rfl)
  rw [lg_entry_eq]
  generalize (lg_sl ([.int (nI i), .int (nI n), .null]) ++ List.replicate (3 - (lg_sl ([.int (nI i), .int (nI n), .null])).length) Slot.unset).toArray = ls at hl ⊢
  have hl : lv_has ls 3 [(0, .int (nI i)), (1, .int (nI n)), (2, .null)] := hl
  refine lv_iload_n hx hb dJ3_checkIndex_8e157_0 rfl (lv_at hl 0 rfl) ?_
  refine ln_if_lt_f (tgt := 9) hx hb (by omega) dJ3_checkIndex_8e157_1 (by decide) ?_
  refine lv_iload_n hx hb dJ3_checkIndex_8e157_4 rfl (lv_at hl 0 rfl) ?_
  refine lv_iload_n hx hb dJ3_checkIndex_8e157_5 rfl (lv_at hl 1 rfl) ?_
  refine ln_icmp_lt_t (tgt := 16) hx hb ⟨by omega, by omega⟩ (hi.1) dJ3_checkIndex_8e157_6 (by decide) ?_
  refine lv_iload_n hx hb dJ3_checkIndex_8e157_16 rfl (lv_at hl 0 rfl) ?_
  exact W.iret (v := (nI i)) hx hb hr (fun t ht hW => ⟨(congrArg (fun z => Outcome.returned (some (Value.int z))) (show (nI i) = (nI i) from rfl)), ht⟩) (fun q h => nomatch h) dJ3_checkIndex_8e157_17
set_option maxHeartbeats 4000000 in
set_option maxRecDepth 100000 in
theorem c_J0_checkIndex (l : Launch) (D : va_G) (T : Nat → ClassId) (g : Nat → Nat) (i : Nat) (n : Nat) (hi : i < n ∧ n < 2 ^ 31) : RV l yJ0_checkIndex_df160 wsJ0_checkIndex_df160 ({ frames := 1, cells := 0, slots := 0, locals := 22 } : Room) D T g [.int (nI i), .int (nI n)] [] := by
  refine Met.ofW (cc := cJ0_checkIndex_df160) (maxL := 2) (ret := none) (by decide) rfl ?_
  intro p e s m args below meth c s₁ B hml hv
  obtain ⟨rfl, hP, hK, hG⟩ := hv
  have hx := B.exec
  have hb := B.bytes
  have hr := B.returns
  have hts := atoms_spec (ws := wsJ0_checkIndex_df160) B.pre
  have hown : s.vm.findClass RJ0 = some m.cls := findClass_of_methodNamed B.named
  have hlocks := B.notSynchronized
  have hS : va_S (fun _ => False) s.heap s.heap [] := va_S.rf
  have hl := lv_entry ([.int (nI i), .int (nI n)]) (n := 2) (Nat.le_of_ble_eq_true rfl)
  rw [lg_entry_eq]
  generalize (lg_sl ([.int (nI i), .int (nI n)]) ++ List.replicate (2 - (lg_sl ([.int (nI i), .int (nI n)])).length) Slot.unset).toArray = ls at hl ⊢
  have hl : lv_has ls 2 [(0, .int (nI i)), (1, .int (nI n))] := hl
  refine lv_iload_n hx hb dJ0_checkIndex_df160_0 rfl (lv_at hl 0 rfl) ?_
  refine lv_iload_n hx hb dJ0_checkIndex_df160_1 rfl (lv_at hl 1 rfl) ?_
  rcases hG.2.2.2.2.1 with hz9 | ⟨t9, hz9⟩
  · refine va_gets hx hb hz9 hS hown (hts _ (List.mem_of_getElem? (i := 1) rfl)) (fun _ h9 => h9) dJ0_checkIndex_df160_2 ?_
    refine ro_S (As := [.int (nI i), .int (nI n), .null]) (rest := []) (wc := []) (r := .int (nI i)) ⟨hx, hb, hml, hown, hts⟩ (c_J3_checkIndex_n l D T g i n hi) (va_cwS 3 hts gJ0_checkIndex_df160_J3_checkIndex_8e157 rfl rfl rfl (by decide +kernel) ⟨Nat.le_of_ble_eq_true rfl, Nat.le_of_ble_eq_true rfl⟩) hP hK hG hS [] rfl ⟨Nat.zero_le _, Nat.zero_le _⟩ rfl hl.1 (Nat.le_of_ble_eq_true rfl) dJ0_checkIndex_df160_5 rfl ?_
    refine lv_pop hx hb dJ0_checkIndex_df160_8 rfl ?_
    exact W.vret hx hb hr (fun t ht hW => ⟨rfl, trivial, ht⟩) (fun q h => nomatch h) dJ0_checkIndex_df160_9
  · refine va_gets hx hb hz9 hS hown (hts _ (List.mem_of_getElem? (i := 1) rfl)) (fun _ h9 => h9) dJ0_checkIndex_df160_2 ?_
    refine ro_S (As := [.int (nI i), .int (nI n), .ref t9]) (rest := []) (wc := []) (r := .int (nI i)) ⟨hx, hb, hml, hown, hts⟩ (c_J3_checkIndex_r l D T g i n t9 hi) (va_cwS 3 hts gJ0_checkIndex_df160_J3_checkIndex_8e157 rfl rfl rfl (by decide +kernel) ⟨Nat.le_of_ble_eq_true rfl, Nat.le_of_ble_eq_true rfl⟩) hP hK hG hS [] rfl ⟨Nat.zero_le _, Nat.zero_le _⟩ rfl hl.1 (Nat.le_of_ble_eq_true rfl) dJ0_checkIndex_df160_5 rfl ?_
    refine lv_pop hx hb dJ0_checkIndex_df160_8 rfl ?_
    exact W.vret hx hb hr (fun t ht hW => ⟨rfl, trivial, ht⟩) (fun q h => nomatch h) dJ0_checkIndex_df160_9
set_option maxHeartbeats 4000000 in
set_option maxRecDepth 100000 in
theorem c_J5_charAt (l : Launch) (D : va_G) (T : Nat → ClassId) (g : Nat → Nat) (t0 : Nat) (tv : Nat) (ml : Int32) (cnt : Nat) (cap : Nat) (fb : Nat → Int32) (i : Nat) (w : Nat → Nat) (htb : TB fb cap cnt w) (hi : i < cnt) : RO l yJ5_charAt_5068e wsJ5_charAt_5068e ({ frames := 2, cells := 0, slots := 0, locals := 43 } : Room) D T g [.ref t0, .int (nI i)] [(t0, .inr (4, [.ref tv, .int (nI 0), .int ml, .int (nI cnt)])), (tv, .inl (T 1, cap, .inl fb))] (.int (nI (w i))) := by
  refine Met.ofW (cc := cJ5_charAt_5068e) (maxL := 5) (ret := (some .char)) (by decide) rfl ?_
  intro p e s m args below meth c s₁ B hml hv
  obtain ⟨rfl, hP, hK, hG⟩ := hv
  have hx := B.exec
  have hb := B.bytes
  have hr := B.returns
  have hts := atoms_spec (ws := wsJ5_charAt_5068e) B.pre
  have hown : s.vm.findClass RJ5 = some m.cls := findClass_of_methodNamed B.named
  have hlocks := B.notSynchronized
  have hi_J4 : ∀ w ∈ wsJ40, w ∈ wsJ5_charAt_5068e := by decide +kernel
  have hS : va_S (fun _ => False) s.heap s.heap [] := va_S.rf
  have hl := lv_entry ([.ref t0, .int (nI i)]) (n := 5) (Nat.le_of_ble_eq_true rfl)
  rw [lg_entry_eq]
  generalize (lg_sl ([.ref t0, .int (nI i)]) ++ List.replicate (5 - (lg_sl ([.ref t0, .int (nI i)])).length) Slot.unset).toArray = ls at hl ⊢
  have hl : lv_has ls 5 [(0, .ref t0), (1, .int (nI i))] := hl
  obtain ⟨hfit9, hcc, hcap, hw9⟩ := htb
  have hwi := hw9 i hi
  refine lv_aload_n hx hb dJ5_charAt_5068e_0 rfl (lv_at hl 0 rfl) ?_
  refine va_get (D := D) (ci := 4) (v := .int (nI 0)) (C := RJ4) (T := TJ4) (N := 4) hx hb hts hi_J4 hown hK hP 0 rfl rfl 1 (by decide) (hts _ (List.mem_of_getElem? (i := 1) rfl)) (fun _ h9 => h9) rfl dJ5_charAt_5068e_1 ?_
  refine lv_istore_n (lv' := [(2, .int (nI 0)), (0, .ref t0), (1, .int (nI i))]) hx hb dJ5_charAt_5068e_4 rfl hl (by decide) rfl (fun ls hl => ?_)
  refine lv_aload_n hx hb dJ5_charAt_5068e_5 rfl (lv_at hl 1 rfl) ?_
  refine va_get (D := D) (ci := 4) (v := .ref tv) (C := RJ4) (T := TJ4) (N := 4) hx hb hts hi_J4 hown hK hP 0 rfl rfl 0 (by decide) (hts _ (List.mem_of_getElem? (i := 2) rfl)) (fun _ h9 => h9) rfl dJ5_charAt_5068e_6 ?_
  refine lv_astore_n (lv' := [(3, .ref tv), (2, .int (nI 0)), (0, .ref t0), (1, .int (nI i))]) hx hb dJ5_charAt_5068e_9 rfl hl (by decide) rfl (fun ls hl => ?_)
  refine lv_aload_n hx hb dJ5_charAt_5068e_10 rfl (lv_at hl 2 rfl) ?_
  refine va_get (D := D) (ci := 4) (v := .int (nI cnt)) (C := RJ4) (T := TJ4) (N := 4) hx hb hts hi_J4 hown hK hP 0 rfl rfl 3 (by decide) (hts _ (List.mem_of_getElem? (i := 3) rfl)) (fun _ h9 => h9) rfl dJ5_charAt_5068e_11 ?_
  refine lv_aload_n hx hb dJ5_charAt_5068e_14 rfl (lv_at hl 0 rfl) ?_
  refine va_alen hx hb hK hP 1 1 rfl rfl (v := nI cap) rfl dJ5_charAt_5068e_15 ?_
  refine lv_iload_n hx hb dJ5_charAt_5068e_16 rfl (lv_at hl 1 rfl) ?_
  refine ln_shr hx hb ⟨by omega, by omega⟩ dJ5_charAt_5068e_17 ?_
  rw [show cap / 2 ^ 0 = cap from (by rw [Nat.pow_zero, Nat.div_one])]
  refine va_mmin hx hb (hml.trans hl.1.symm) hown (hts _ (List.mem_of_getElem? (i := 4) rfl)) (hts _ (List.mem_of_getElem? (i := 5) rfl)) (hts _ (List.mem_of_getElem? (i := 6) rfl)) (hts _ (List.mem_of_getElem? (i := 7) rfl)) (Nat.le_of_ble_eq_true rfl) (Nat.le_of_ble_eq_true rfl) (Nat.zero_le _) (Nat.zero_le _) dJ5_charAt_5068e_18 ?_
  rw [show (if (nI cap) < (nI cnt) then (nI cap) else (nI cnt)) = nI cnt from if_neg (nI_nlt (by omega) (by omega))]
  refine lv_istore (lv' := [(4, .int (nI cnt)), (3, .ref tv), (2, .int (nI 0)), (0, .ref t0), (1, .int (nI i))]) hx hb dJ5_charAt_5068e_21 hl (by decide) rfl (fun ls hl => ?_)
  refine lv_iload_n hx hb dJ5_charAt_5068e_23 rfl (lv_at hl 4 rfl) ?_
  refine lv_iload hx hb dJ5_charAt_5068e_24 (lv_at hl 0 rfl) ?_
  refine rv_S (As := [.int (nI i), .int (nI cnt)]) (rest := []) (wc := []) ⟨hx, hb, hml, hown, hts⟩ (c_J0_checkIndex l D T g i cnt (by omega)) (va_cwS 2 hts gJ5_charAt_5068e_J0_checkIndex_df160 rfl rfl rfl (by decide +kernel) ⟨Nat.le_of_ble_eq_true rfl, Nat.le_of_ble_eq_true rfl⟩) hP hK hG hS [] rfl ⟨Nat.zero_le _, Nat.zero_le _⟩ rfl hl.1 (Nat.le_of_ble_eq_true rfl) dJ5_charAt_5068e_26 rfl ?_
  refine lv_iload_n hx hb dJ5_charAt_5068e_29 rfl (lv_at hl 2 rfl) ?_
  refine ln_if_ne_f (tgt := 42) hx hb (by omega) (rfl) dJ5_charAt_5068e_30 (by decide) ?_
  refine lv_aload_n hx hb dJ5_charAt_5068e_33 rfl (lv_at hl 1 rfl) ?_
  refine lv_iload_n hx hb dJ5_charAt_5068e_34 rfl (lv_at hl 4 rfl) ?_
  refine ln_bald hx hb hK hP 1 1 rfl rfl ⟨by omega, by omega⟩ dJ5_charAt_5068e_35 ?_
  rw [show fb i = nI (w i) from hwi.1]
  refine lv_sipush (v := (nI 255)) hx hb dJ5_charAt_5068e_36 (by decide +kernel) ?_
  refine ln_and hx hb 8 (by omega) (by decide +kernel) dJ5_charAt_5068e_39 ?_
  rw [show (w i) % 2 ^ 8 = w i from Nat.mod_eq_of_lt (by omega)]
  refine lv_i2c hx hb dJ5_charAt_5068e_40 (v := (nI (w i))) (i2cN (by omega)) ?_
  exact W.zret (v := (nI (w i))) (ty := .char) hx hb hr ((pk_charN (by omega)).1) (fun t ht hW => ⟨(congrArg (fun z => Outcome.returned (some (Value.int z))) (show (nI (w i)) = (nI (w i)) from rfl)), ht⟩) (fun q h => nomatch h) dJ5_charAt_5068e_41
set_option maxHeartbeats 4000000 in
set_option maxRecDepth 100000 in
theorem c_J4_charAt (l : Launch) (D : va_G) (T : Nat → ClassId) (g : Nat → Nat) (t0 : Nat) (tv : Nat) (ml : Int32) (cnt : Nat) (cap : Nat) (fb : Nat → Int32) (i : Nat) (w : Nat → Nat) (htb : TB fb cap cnt w) (hi : i < cnt) : RO l yJ4_charAt_5068e wsJ4_charAt_5068e ({ frames := 3, cells := 0, slots := 0, locals := 67 } : Room) D T g [.ref t0, .int (nI i)] [(t0, .inr (4, [.ref tv, .int (nI 0), .int ml, .int (nI cnt)])), (tv, .inl (T 1, cap, .inl fb))] (.int (nI (w i))) := by
  refine Met.ofW (cc := cJ4_charAt_5068e) (maxL := 2) (ret := (some .char)) (by decide) rfl ?_
  intro p e s m args below meth c s₁ B hml hv
  obtain ⟨rfl, hP, hK, hG⟩ := hv
  have hx := B.exec
  have hb := B.bytes
  have hr := B.returns
  have hts := atoms_spec (ws := wsJ4_charAt_5068e) B.pre
  have hown : s.vm.findClass RJ4 = some m.cls := findClass_of_methodNamed B.named
  have hlocks := B.notSynchronized
  have hS : va_S (fun _ => False) s.heap s.heap [] := va_S.rf
  have hl := lv_entry ([.ref t0, .int (nI i)]) (n := 2) (Nat.le_of_ble_eq_true rfl)
  rw [lg_entry_eq]
  generalize (lg_sl ([.ref t0, .int (nI i)]) ++ List.replicate (2 - (lg_sl ([.ref t0, .int (nI i)])).length) Slot.unset).toArray = ls at hl ⊢
  have hl : lv_has ls 2 [(0, .ref t0), (1, .int (nI i))] := hl
  have hwi := htb.2.2.2 i hi
  refine lv_aload_n hx hb dJ4_charAt_5068e_0 rfl (lv_at hl 0 rfl) ?_
  refine lv_iload_n hx hb dJ4_charAt_5068e_1 rfl (lv_at hl 1 rfl) ?_
  refine ro_SU (va_classAt hK (ci := 4) rfl) (As := [.int (nI i)]) (rest := []) (wc := [(t0, .inr (4, [.ref tv, .int (nI 0), .int ml, .int (nI cnt)])), (tv, .inl (T 1, cap, .inl fb))]) (r := .int (nI (w i))) ⟨hx, hb, hml, hown, hts⟩ (c_J5_charAt l D T g t0 tv ml cnt cap fb i w htb hi) (va_cwSU 1 hts gJ4_charAt_5068e_J5_charAt_5068e_s329 rfl rfl rfl (by decide +kernel) ⟨Nat.le_of_ble_eq_true rfl, Nat.le_of_ble_eq_true rfl⟩) (va_recv hK hP (ci := 4) (q0 := 0) rfl rfl) hP hK hG hS [0, 1] rfl ⟨Nat.zero_le _, Nat.zero_le _⟩ rfl hl.1 (Nat.le_of_ble_eq_true rfl) dJ4_charAt_5068e_2 rfl ?_
  exact W.zret (v := (nI (w i))) (ty := .char) hx hb hr ((pk_charN (by omega)).1) (fun t ht hW => ⟨(congrArg (fun z => Outcome.returned (some (Value.int z))) (show (nI (w i)) = (nI (w i)) from rfl)), ht⟩) (fun q h => nomatch h) dJ4_charAt_5068e_5
set_option maxHeartbeats 4000000 in
set_option maxRecDepth 100000 in
theorem c_J8_newLength (l : Launch) (D : va_G) (T : Nat → ClassId) (g : Nat → Nat) (a9 : Nat) (b9 : Nat) (c9 : Nat) (h8 : b9 < c9 ∧ a9 + c9 < 100000) : RO l yJ8_newLength_cabcc wsJ8_newLength_cabcc ({ frames := 1, cells := 0, slots := 0, locals := 24 } : Room) D T g [.int (nI a9), .int (nI b9), .int (nI c9)] [] (.int (nI (a9 + c9))) := by
  refine Met.ofW (cc := cJ8_newLength_cabcc) (maxL := 4) (ret := (some .int)) (by decide) rfl ?_
  intro p e s m args below meth c s₁ B hml hv
  obtain ⟨rfl, hP, hK, hG⟩ := hv
  have hx := B.exec
  have hb := B.bytes
  have hr := B.returns
  have hts := atoms_spec (ws := wsJ8_newLength_cabcc) B.pre
  have hown : s.vm.findClass RJ8 = some m.cls := findClass_of_methodNamed B.named
  have hlocks := B.notSynchronized
  have hS : va_S (fun _ => False) s.heap s.heap [] := va_S.rf
  have hl := lv_entry ([.int (nI a9), .int (nI b9), .int (nI c9)]) (n := 4) (Nat.le_of_ble_eq_true rfl)
  rw [lg_entry_eq]
  generalize (lg_sl ([.int (nI a9), .int (nI b9), .int (nI c9)]) ++ List.replicate (4 - (lg_sl ([.int (nI a9), .int (nI b9), .int (nI c9)])).length) Slot.unset).toArray = ls at hl ⊢
  have hl : lv_has ls 4 [(0, .int (nI a9)), (1, .int (nI b9)), (2, .int (nI c9))] := hl
  refine lv_iload_n hx hb dJ8_newLength_cabcc_0 rfl (lv_at hl 0 rfl) ?_
  refine lv_iload_n hx hb dJ8_newLength_cabcc_1 rfl (lv_at hl 1 rfl) ?_
  refine lv_iload_n hx hb dJ8_newLength_cabcc_2 rfl (lv_at hl 2 rfl) ?_
  refine va_mmax hx hb (hml.trans hl.1.symm) hown (hts _ (List.mem_of_getElem? (i := 1) rfl)) (hts _ (List.mem_of_getElem? (i := 2) rfl)) (hts _ (List.mem_of_getElem? (i := 3) rfl)) (hts _ (List.mem_of_getElem? (i := 4) rfl)) (Nat.le_of_ble_eq_true rfl) (Nat.le_of_ble_eq_true rfl) (Nat.zero_le _) (Nat.zero_le _) dJ8_newLength_cabcc_3 ?_
  rw [show (if (nI b9) < (nI c9) then (nI c9) else (nI b9)) = nI c9 from if_pos (nI_lt h8.1 (by omega))]
  refine ln_add hx hb dJ8_newLength_cabcc_6 ?_
  refine lv_istore_n (lv' := [(3, .int (nI (a9 + c9))), (0, .int (nI a9)), (1, .int (nI b9)), (2, .int (nI c9))]) hx hb dJ8_newLength_cabcc_7 rfl hl (by decide) rfl (fun ls hl => ?_)
  refine lv_iconst (v := (nI 0)) hx hb dJ8_newLength_cabcc_8 (by decide +kernel) ?_
  refine lv_iload_n hx hb dJ8_newLength_cabcc_9 rfl (lv_at hl 0 rfl) ?_
  refine ln_icmp_ge_f (tgt := 21) hx hb ⟨by omega, by omega⟩ (by omega) dJ8_newLength_cabcc_10 (by decide) ?_
  refine lv_iload_n hx hb dJ8_newLength_cabcc_13 rfl (lv_at hl 0 rfl) ?_
  refine lv_ldc (v := nI 2147483639) hx hb hown (hts _ (List.mem_of_getElem? (i := 5) rfl)) dJ8_newLength_cabcc_14 ?_
  refine ln_icmp_gt_f (tgt := 21) hx hb ⟨by omega, by omega⟩ (by omega) dJ8_newLength_cabcc_16 (by decide) ?_
  refine lv_iload_n hx hb dJ8_newLength_cabcc_19 rfl (lv_at hl 0 rfl) ?_
  exact W.iret (v := (nI (a9 + c9))) hx hb hr (fun t ht hW => ⟨(congrArg (fun z => Outcome.returned (some (Value.int z))) (show (nI (a9 + c9)) = (nI (a9 + c9)) from rfl)), ht⟩) (fun q h => nomatch h) dJ8_newLength_cabcc_20
set_option maxHeartbeats 4000000 in
set_option maxRecDepth 100000 in
theorem c_J5_newCapacity (l : Launch) (D : va_G) (T : Nat → ClassId) (g : Nat → Nat) (t0 : Nat) (tv : Nat) (ml : Int32) (cnt : Nat) (cap : Nat) (fb : Nat → Int32) (m9 : Nat) (hm : m9 = cap + 1 ∧ cap ≤ 574) : RO l yJ5_newCapacity_0f7a4 wsJ5_newCapacity_0f7a4 ({ frames := 2, cells := 0, slots := 0, locals := 47 } : Room) D T g [.ref t0, .int (nI m9)] [(t0, .inr (4, [.ref tv, .int (nI 0), .int ml, .int (nI cnt)])), (tv, .inl (T 1, cap, .inl fb))] (.int (nI (2 * cap + 2))) := by
  refine Met.ofW (cc := cJ5_newCapacity_0f7a4) (maxL := 6) (ret := (some .int)) (by decide) rfl ?_
  intro p e s m args below meth c s₁ B hml hv
  obtain ⟨rfl, hP, hK, hG⟩ := hv
  have hx := B.exec
  have hb := B.bytes
  have hr := B.returns
  have hts := atoms_spec (ws := wsJ5_newCapacity_0f7a4) B.pre
  have hown : s.vm.findClass RJ5 = some m.cls := findClass_of_methodNamed B.named
  have hlocks := B.notSynchronized
  have hi_J4 : ∀ w ∈ wsJ40, w ∈ wsJ5_newCapacity_0f7a4 := by decide +kernel
  have hS : va_S (fun _ => False) s.heap s.heap [] := va_S.rf
  have hl := lv_entry ([.ref t0, .int (nI m9)]) (n := 6) (Nat.le_of_ble_eq_true rfl)
  rw [lg_entry_eq]
  generalize (lg_sl ([.ref t0, .int (nI m9)]) ++ List.replicate (6 - (lg_sl ([.ref t0, .int (nI m9)])).length) Slot.unset).toArray = ls at hl ⊢
  have hl : lv_has ls 6 [(0, .ref t0), (1, .int (nI m9))] := hl
  refine lv_aload_n hx hb dJ5_newCapacity_0f7a4_0 rfl (lv_at hl 0 rfl) ?_
  refine va_get (D := D) (ci := 4) (v := .ref tv) (C := RJ4) (T := TJ4) (N := 4) hx hb hts hi_J4 hown hK hP 0 rfl rfl 0 (by decide) (hts _ (List.mem_of_getElem? (i := 1) rfl)) (fun _ h9 => h9) rfl dJ5_newCapacity_0f7a4_1 ?_
  refine va_alen hx hb hK hP 1 1 rfl rfl (v := nI cap) rfl dJ5_newCapacity_0f7a4_4 ?_
  refine lv_istore_n (lv' := [(2, .int (nI cap)), (0, .ref t0), (1, .int (nI m9))]) hx hb dJ5_newCapacity_0f7a4_5 rfl hl (by decide) rfl (fun ls hl => ?_)
  refine lv_iload_n hx hb dJ5_newCapacity_0f7a4_6 rfl (lv_at hl 2 rfl) ?_
  refine lv_aload_n hx hb dJ5_newCapacity_0f7a4_7 rfl (lv_at hl 1 rfl) ?_
  refine va_get (D := D) (ci := 4) (v := .int (nI 0)) (C := RJ4) (T := TJ4) (N := 4) hx hb hts hi_J4 hown hK hP 0 rfl rfl 1 (by decide) (hts _ (List.mem_of_getElem? (i := 2) rfl)) (fun _ h9 => h9) rfl dJ5_newCapacity_0f7a4_8 ?_
  refine ln_shl hx hb ⟨by omega, by omega⟩ dJ5_newCapacity_0f7a4_11 ?_
  rw [show m9 * 2 ^ 0 = m9 from (by rw [Nat.pow_zero, Nat.mul_one])]
  refine lv_istore_n (lv' := [(3, .int (nI m9)), (2, .int (nI cap)), (0, .ref t0), (1, .int (nI m9))]) hx hb dJ5_newCapacity_0f7a4_12 rfl hl (by decide) rfl (fun ls hl => ?_)
  refine lv_iload_n hx hb dJ5_newCapacity_0f7a4_13 rfl (lv_at hl 0 rfl) ?_
  refine lv_iload_n hx hb dJ5_newCapacity_0f7a4_14 rfl (lv_at hl 1 rfl) ?_
  refine ln_sub hx hb (by omega) dJ5_newCapacity_0f7a4_15 ?_
  refine lv_istore (lv' := [(4, .int (nI (m9 - cap))), (3, .int (nI m9)), (2, .int (nI cap)), (0, .ref t0), (1, .int (nI m9))]) hx hb dJ5_newCapacity_0f7a4_16 hl (by decide) rfl (fun ls hl => ?_)
  refine lv_iload_n hx hb dJ5_newCapacity_0f7a4_18 rfl (lv_at hl 2 rfl) ?_
  refine lv_iload hx hb dJ5_newCapacity_0f7a4_19 (lv_at hl 0 rfl) ?_
  refine lv_iload_n hx hb dJ5_newCapacity_0f7a4_21 rfl (lv_at hl 2 rfl) ?_
  refine lv_iconst (v := (nI 2)) hx hb dJ5_newCapacity_0f7a4_22 (by decide +kernel) ?_
  refine lv_aload_n hx hb dJ5_newCapacity_0f7a4_23 rfl (lv_at hl 3 rfl) ?_
  refine va_get (D := D) (ci := 4) (v := .int (nI 0)) (C := RJ4) (T := TJ4) (N := 4) hx hb hts hi_J4 hown hK hP 0 rfl rfl 1 (by decide) (hts _ (List.mem_of_getElem? (i := 2) rfl)) (fun _ h9 => h9) rfl dJ5_newCapacity_0f7a4_24 ?_
  refine ln_shl hx hb ⟨by omega, by omega⟩ dJ5_newCapacity_0f7a4_27 ?_
  rw [show 2 * 2 ^ 0 = 2 from (by rw [Nat.pow_zero])]
  refine ln_add hx hb dJ5_newCapacity_0f7a4_28 ?_
  refine ro_S (As := [.int (nI cap), .int (nI (m9 - cap)), .int (nI (cap + 2))]) (rest := []) (wc := []) (r := .int (nI (cap + (cap + 2)))) ⟨hx, hb, hml, hown, hts⟩ (c_J8_newLength l D T g cap (m9 - cap) (cap + 2) (by omega)) (va_cwS 3 hts gJ5_newCapacity_0f7a4_J8_newLength_cabcc rfl rfl rfl (by decide +kernel) ⟨Nat.le_of_ble_eq_true rfl, Nat.le_of_ble_eq_true rfl⟩) hP hK hG hS [] rfl ⟨Nat.zero_le _, Nat.zero_le _⟩ rfl hl.1 (Nat.le_of_ble_eq_true rfl) dJ5_newCapacity_0f7a4_29 rfl ?_
  refine lv_istore (lv' := [(5, .int (nI (cap + (cap + 2)))), (4, .int (nI (m9 - cap))), (3, .int (nI m9)), (2, .int (nI cap)), (0, .ref t0), (1, .int (nI m9))]) hx hb dJ5_newCapacity_0f7a4_32 hl (by decide) rfl (fun ls hl => ?_)
  refine lv_iload hx hb dJ5_newCapacity_0f7a4_34 (lv_at hl 0 rfl) ?_
  refine lv_ldc (v := nI 2147483647) hx hb hown (hts _ (List.mem_of_getElem? (i := 3) rfl)) dJ5_newCapacity_0f7a4_36 ?_
  refine ln_icmp_ne_t (tgt := 51) hx hb ⟨by omega, by omega⟩ (by omega) dJ5_newCapacity_0f7a4_38 (by decide) ?_
  refine lv_iload hx hb dJ5_newCapacity_0f7a4_51 (lv_at hl 0 rfl) ?_
  refine lv_aload_n hx hb dJ5_newCapacity_0f7a4_53 rfl (lv_at hl 4 rfl) ?_
  refine va_get (D := D) (ci := 4) (v := .int (nI 0)) (C := RJ4) (T := TJ4) (N := 4) hx hb hts hi_J4 hown hK hP 0 rfl rfl 1 (by decide) (hts _ (List.mem_of_getElem? (i := 2) rfl)) (fun _ h9 => h9) rfl dJ5_newCapacity_0f7a4_54 ?_
  refine ln_shr hx hb ⟨by omega, by omega⟩ dJ5_newCapacity_0f7a4_57 ?_
  rw [show (cap + (cap + 2)) / 2 ^ 0 = cap + (cap + 2) from (by rw [Nat.pow_zero, Nat.div_one])]
  exact W.iret (v := (nI (cap + (cap + 2)))) hx hb hr (fun t ht hW => ⟨(congrArg (fun z => Outcome.returned (some (Value.int z))) (show (nI (cap + (cap + 2))) = (nI (2 * cap + 2)) from congrArg nI (by omega))), ht⟩) (fun q h => nomatch h) dJ5_newCapacity_0f7a4_58
set_option maxHeartbeats 4000000 in
set_option maxRecDepth 100000 in
/-- Arrays.copyOf to a longer one -/
theorem c_J7_copyOf (l : Launch) (D : va_G) (T : Nat → ClassId) (g : Nat → Nat) (sz : Nat) (tv : Nat) (cap : Nat) (fb : Nat → Int32) (m9 : Nat) (hfit9 : sb_Fit fb) (hm : cap < m9 ∧ m9 < 2000) : MU l yJ7_copyOf_9075b wsJ7_copyOf_9075b ({ frames := 1, cells := 1, slots := m9, locals := 70 } : Room) D T g [.ref tv, .int (nI m9)] [(tv, .inl (T 1, cap, .inl fb))] sz (fun u : Nat × (Nat → Int32) => some (.ref u.1)) (fun u : Nat × (Nat → Int32) => sb_Fit u.2 ∧ ∀ j, j < cap → u.2 j = fb j) (fun u : Nat × (Nat → Int32) => [(tv, .inl (T 1, cap, .inl fb)), (u.1, .inl (T 1, m9, .inl u.2))]) 1 m9 := by
  refine Met.ofW (cc := cJ7_copyOf_9075b) (maxL := 3) (ret := (some (.array .byte))) (by decide) rfl ?_
  intro p e s m args below meth c s₁ B hml hv
  obtain ⟨rfl, hsz, hP, hK, hD0, hG⟩ := hv
  have hx := B.exec
  have hb := B.bytes
  have hr := B.returns
  have hts := atoms_spec (ws := wsJ7_copyOf_9075b) B.pre
  have hown : s.vm.findClass RJ7 = some m.cls := findClass_of_methodNamed B.named
  have hlocks := B.notSynchronized
  subst hsz
  have hD := hD0.self (sz := s.heap.size)
  generalize hAe : va_A [(tv, .inl (T 1, cap, .inl fb))] s.heap.size = A at hD hG ⊢
  have hA : ∀ q : Nat, s.heap.size ≤ q → A q := fun q h => by rw [← hAe]; exact Or.inr h
  have hS : va_S A s.heap s.heap [] := va_S.rf
  have hP : va_P D cls [(tv, .inl (T 1, cap, .inl fb))] s.heap := hP
  have hl := lv_entry ([.ref tv, .int (nI m9)]) (n := 3) (Nat.le_of_ble_eq_true rfl)
  rw [lg_entry_eq]
  generalize (lg_sl ([.ref tv, .int (nI m9)]) ++ List.replicate (3 - (lg_sl ([.ref tv, .int (nI m9)])).length) Slot.unset).toArray = ls at hl ⊢
  have hl : lv_has ls 3 [(0, .ref tv), (1, .int (nI m9))] := hl
  refine lv_iload_n hx hb dJ7_copyOf_9075b_0 rfl (lv_at hl 1 rfl) ?_
  refine lv_aload_n hx hb dJ7_copyOf_9075b_1 rfl (lv_at hl 0 rfl) ?_
  refine va_alen hx hb hK hP 0 1 rfl rfl (v := nI cap) rfl dJ7_copyOf_9075b_2 ?_
  refine ln_icmp_ne_t (tgt := 14) hx hb ⟨by omega, by omega⟩ (by omega) dJ7_copyOf_9075b_3 (by decide) ?_
  refine lv_iload_n hx hb dJ7_copyOf_9075b_14 rfl (lv_at hl 1 rfl) ?_
  refine va_newa (atype := .byte) (ty := .byte) (N' := m9) (a0 := (m9, .inl (fun _ => 0))) hx hb (hts _ (List.mem_of_getElem? (i := 7) rfl)) rfl hK hP hD hS hA (fun _ => rfl) (nI_pos (by omega)) (nI_clamp (by omega)) (by show _ * 1 ≤ _; omega) (Nat.le_of_ble_eq_true rfl) (Nat.le_of_eq (Nat.zero_add _)) dJ7_copyOf_9075b_15 (fun q9 cA9 H hK9 hP hD hS => ?_)
  have hcA := newa_id1 hK9
  subst hcA
  have hP : va_P D cls [(tv, .inl (T 1, cap, .inl fb)), (q9, .inl (T 1, m9, .inl (fun _ => 0)))] H := hP
  have hD : va_D A [(tv, .inl (T 1, cap, .inl fb)), (q9, .inl (T 1, m9, .inl (fun _ => 0)))] := hD
  refine W.widen (k := 1) (n := m9) (by omega) (by omega) ?_
  refine lv_astore_n (lv' := [(2, .ref q9), (0, .ref tv), (1, .int (nI m9))]) hx hb dJ7_copyOf_9075b_17 rfl hl (by decide) rfl (fun ls hl => ?_)
  refine lv_aload_n hx hb dJ7_copyOf_9075b_18 rfl (lv_at hl 1 rfl) ?_
  refine lv_iconst (v := (nI 0)) hx hb dJ7_copyOf_9075b_19 (by decide +kernel) ?_
  refine lv_aload_n hx hb dJ7_copyOf_9075b_20 rfl (lv_at hl 0 rfl) ?_
  refine lv_iconst (v := (nI 0)) hx hb dJ7_copyOf_9075b_21 (by decide +kernel) ?_
  refine lv_aload_n hx hb dJ7_copyOf_9075b_22 rfl (lv_at hl 1 rfl) ?_
  refine va_alen hx hb hK hP 0 1 rfl rfl (v := nI cap) rfl dJ7_copyOf_9075b_23 ?_
  refine lv_iload_n hx hb dJ7_copyOf_9075b_24 rfl (lv_at hl 2 rfl) ?_
  refine va_mmin hx hb (hml.trans hl.1.symm) hown (hts _ (List.mem_of_getElem? (i := 8) rfl)) (hts _ (List.mem_of_getElem? (i := 9) rfl)) (hts _ (List.mem_of_getElem? (i := 10) rfl)) (hts _ (List.mem_of_getElem? (i := 11) rfl)) (Nat.le_of_ble_eq_true rfl) (Nat.le_of_ble_eq_true rfl) (Nat.le_of_ble_eq_true rfl) (by show _ ≤ m9; omega) dJ7_copyOf_9075b_25 ?_
  rw [show (if (nI m9) < (nI cap) then (nI m9) else (nI cap)) = nI cap from if_neg (nI_nlt (by omega) (by omega))]
  refine va_copyi hx hb (hml.trans hl.1.symm) hown (hts _ (List.mem_of_getElem? (i := 12) rfl)) (hts _ (List.mem_of_getElem? (i := 13) rfl)) (hts _ (List.mem_of_getElem? (i := 14) rfl)) (hts _ (List.mem_of_getElem? (i := 15) rfl)) hK hP hD hS 0 1 1 1 rfl rfl rfl rfl rfl (nI_pos (by omega)) (nI_pos (by omega)) (nI_pos (by omega)) (by rw [nI_clamp (by omega), nI_clamp (by omega)]; omega) (by rw [nI_clamp (by omega), nI_clamp (by omega)]; omega) (fun i hi => hfit9 _) (Nat.le_of_ble_eq_true rfl) (Nat.le_of_ble_eq_true rfl) dJ7_copyOf_9075b_28 (fun H locs hP hD hS => ?_)
  rw [nI_clamp (by omega), nI_clamp (by omega)] at hP hD
  have hP : va_P D cls [(tv, .inl (T 1, cap, .inl fb)), (q9, .inl (T 1, m9, .inl (va_cpy fb (fun _ => 0) 0 0 cap)))] H := hP
  have hD : va_D A [(tv, .inl (T 1, cap, .inl fb)), (q9, .inl (T 1, m9, .inl (va_cpy fb (fun _ => 0) 0 0 cap)))] := hD
  refine lv_aload_n hx hb dJ7_copyOf_9075b_31 rfl (lv_at hl 0 rfl) ?_
  have hP9 := hP.sub (ws' := [(tv, .inl (T 1, cap, .inl fb)), (q9, .inl (T 1, m9, .inl (va_cpy fb (fun _ => 0) 0 0 cap)))]) [0, 1] rfl
  have hD9 := hD.sub (ws' := [(tv, .inl (T 1, cap, .inl fb)), (q9, .inl (T 1, m9, .inl (va_cpy fb (fun _ => 0) 0 0 cap)))]) [0, 1] (by decide) rfl
  exact W.aret (v := .ref q9) hx hb hr (Or.inr ⟨_, rfl⟩) (Or.inr ⟨_, rfl⟩) (fun t ht hW => ⟨⟨(q9, va_cpy fb (fun _ => 0) 0 0 cap), rfl, show sb_Fit (va_cpy fb (fun _ => 0) 0 0 cap) ∧ ∀ j, j < cap → (va_cpy fb (fun _ => 0) 0 0 cap) j = fb j from ⟨sb_fitC hfit9 sb_fit0, fun j hj => sb_cpy0 hj⟩, (by rw [ht]; exact hP9), va_K.moved hW.alike hK, hD9⟩, hS.F ht⟩) hS.2.2 dJ7_copyOf_9075b_32
set_option maxHeartbeats 4000000 in
set_option maxRecDepth 100000 in
theorem c_J5_ensure_a (l : Launch) (D : va_G) (T : Nat → ClassId) (g : Nat → Nat) (t0 : Nat) (tv : Nat) (ml : Int32) (cnt : Nat) (cap : Nat) (fb : Nat → Int32) (m9 : Nat) (hm : m9 ≤ cap ∧ cap ≤ 574) : RV l yJ5_ensureCapacityInternal_d00df wsJ5_ensureCapacityInternal_d00df ({ frames := 0, cells := 0, slots := 0, locals := 0 } : Room) D T g [.ref t0, .int (nI m9)] [(t0, .inr (4, [.ref tv, .int (nI 0), .int ml, .int (nI cnt)])), (tv, .inl (T 1, cap, .inl fb))] := by
  refine Met.ofW (cc := cJ5_ensureCapacityInternal_d00df) (maxL := 3) (ret := none) (by decide) rfl ?_
  intro p e s m args below meth c s₁ B hml hv
  obtain ⟨rfl, hP, hK, hG⟩ := hv
  have hx := B.exec
  have hb := B.bytes
  have hr := B.returns
  have hts := atoms_spec (ws := wsJ5_ensureCapacityInternal_d00df) B.pre
  have hown : s.vm.findClass RJ5 = some m.cls := findClass_of_methodNamed B.named
  have hlocks := B.notSynchronized
  have hi_J4 : ∀ w ∈ wsJ40, w ∈ wsJ5_ensureCapacityInternal_d00df := by decide +kernel
  have hS : va_S (fun _ => False) s.heap s.heap [] := va_S.rf
  have hl := lv_entry ([.ref t0, .int (nI m9)]) (n := 3) (Nat.le_of_ble_eq_true rfl)
  rw [lg_entry_eq]
  generalize (lg_sl ([.ref t0, .int (nI m9)]) ++ List.replicate (3 - (lg_sl ([.ref t0, .int (nI m9)])).length) Slot.unset).toArray = ls at hl ⊢
  have hl : lv_has ls 3 [(0, .ref t0), (1, .int (nI m9))] := hl
  refine lv_aload_n hx hb dJ5_ensureCapacityInternal_d00df_0 rfl (lv_at hl 0 rfl) ?_
  refine va_get (D := D) (ci := 4) (v := .ref tv) (C := RJ4) (T := TJ4) (N := 4) hx hb hts hi_J4 hown hK hP 0 rfl rfl 0 (by decide) (hts _ (List.mem_of_getElem? (i := 1) rfl)) (fun _ h9 => h9) rfl dJ5_ensureCapacityInternal_d00df_1 ?_
  refine va_alen hx hb hK hP 1 1 rfl rfl (v := nI cap) rfl dJ5_ensureCapacityInternal_d00df_4 ?_
  refine lv_aload_n hx hb dJ5_ensureCapacityInternal_d00df_5 rfl (lv_at hl 0 rfl) ?_
  refine va_get (D := D) (ci := 4) (v := .int (nI 0)) (C := RJ4) (T := TJ4) (N := 4) hx hb hts hi_J4 hown hK hP 0 rfl rfl 1 (by decide) (hts _ (List.mem_of_getElem? (i := 2) rfl)) (fun _ h9 => h9) rfl dJ5_ensureCapacityInternal_d00df_6 ?_
  refine ln_shr hx hb ⟨by omega, by omega⟩ dJ5_ensureCapacityInternal_d00df_9 ?_
  rw [show cap / 2 ^ 0 = cap from (by rw [Nat.pow_zero, Nat.div_one])]
  refine lv_istore_n (lv' := [(2, .int (nI cap)), (0, .ref t0), (1, .int (nI m9))]) hx hb dJ5_ensureCapacityInternal_d00df_10 rfl hl (by decide) rfl (fun ls hl => ?_)
  refine lv_iload_n hx hb dJ5_ensureCapacityInternal_d00df_11 rfl (lv_at hl 2 rfl) ?_
  refine lv_iload_n hx hb dJ5_ensureCapacityInternal_d00df_12 rfl (lv_at hl 0 rfl) ?_
  refine lv_isub hx hb dJ5_ensureCapacityInternal_d00df_13 ?_
  refine lv_if_le (tgt := 38) hx hb dJ5_ensureCapacityInternal_d00df_14 (by decide) (fun _ => ?_) (fun q9 => absurd (sub_le0 hm.1 (by omega)) q9)
  exact W.vret hx hb hr (fun t ht hW => ⟨rfl, trivial, ht⟩) (fun q h => nomatch h) dJ5_ensureCapacityInternal_d00df_38
set_option maxHeartbeats 4000000 in
set_option maxRecDepth 100000 in
theorem c_J5_ensure_b (l : Launch) (D : va_G) (T : Nat → ClassId) (g : Nat → Nat) (sz : Nat) (t0 : Nat) (tv : Nat) (ml : Int32) (cnt : Nat) (cap : Nat) (fb : Nat → Int32) (m9 : Nat) (hfit9 : sb_Fit fb) (hm : m9 = cap + 1 ∧ cap ≤ 574) : MU l yJ5_ensureCapacityInternal_d00df wsJ5_ensureCapacityInternal_d00df ({ frames := 3, cells := 1, slots := 2 * cap + 2, locals := 92 } : Room) D T g [.ref t0, .int (nI m9)] [(t0, .inr (4, [.ref tv, .int (nI 0), .int ml, .int (nI cnt)])), (tv, .inl (T 1, cap, .inl fb))] sz (fun u : Nat × (Nat → Int32) => none) (fun u : Nat × (Nat → Int32) => sb_Fit u.2 ∧ ∀ j, j < cap → u.2 j = fb j) (fun u : Nat × (Nat → Int32) => [(t0, .inr (4, [.ref u.1, .int (nI 0), .int ml, .int (nI cnt)])), (u.1, .inl (T 1, 2 * cap + 2, .inl u.2))]) 1 (2 * cap + 2) := by
  refine Met.ofW (cc := cJ5_ensureCapacityInternal_d00df) (maxL := 3) (ret := none) (by decide) rfl ?_
  intro p e s m args below meth c s₁ B hml hv
  obtain ⟨rfl, hsz, hP, hK, hD0, hG⟩ := hv
  have hx := B.exec
  have hb := B.bytes
  have hr := B.returns
  have hts := atoms_spec (ws := wsJ5_ensureCapacityInternal_d00df) B.pre
  have hown : s.vm.findClass RJ5 = some m.cls := findClass_of_methodNamed B.named
  have hlocks := B.notSynchronized
  have hi_J4 : ∀ w ∈ wsJ40, w ∈ wsJ5_ensureCapacityInternal_d00df := by decide +kernel
  subst hsz
  have hD := hD0.self (sz := s.heap.size)
  generalize hAe : va_A [(t0, .inr (4, [.ref tv, .int (nI 0), .int ml, .int (nI cnt)])), (tv, .inl (T 1, cap, .inl fb))] s.heap.size = A at hD hG ⊢
  have hA : ∀ q : Nat, s.heap.size ≤ q → A q := fun q h => by rw [← hAe]; exact Or.inr h
  have hS : va_S A s.heap s.heap [] := va_S.rf
  have hP : va_P D cls [(t0, .inr (4, [.ref tv, .int (nI 0), .int ml, .int (nI cnt)])), (tv, .inl (T 1, cap, .inl fb))] s.heap := hP
  have hl := lv_entry ([.ref t0, .int (nI m9)]) (n := 3) (Nat.le_of_ble_eq_true rfl)
  rw [lg_entry_eq]
  generalize (lg_sl ([.ref t0, .int (nI m9)]) ++ List.replicate (3 - (lg_sl ([.ref t0, .int (nI m9)])).length) Slot.unset).toArray = ls at hl ⊢
  have hl : lv_has ls 3 [(0, .ref t0), (1, .int (nI m9))] := hl
  refine lv_aload_n hx hb dJ5_ensureCapacityInternal_d00df_0 rfl (lv_at hl 0 rfl) ?_
  refine va_get (D := D) (ci := 4) (v := .ref tv) (C := RJ4) (T := TJ4) (N := 4) hx hb hts hi_J4 hown hK hP 0 rfl rfl 0 (by decide) (hts _ (List.mem_of_getElem? (i := 1) rfl)) (fun _ h9 => h9) rfl dJ5_ensureCapacityInternal_d00df_1 ?_
  refine va_alen hx hb hK hP 1 1 rfl rfl (v := nI cap) rfl dJ5_ensureCapacityInternal_d00df_4 ?_
  refine lv_aload_n hx hb dJ5_ensureCapacityInternal_d00df_5 rfl (lv_at hl 0 rfl) ?_
  refine va_get (D := D) (ci := 4) (v := .int (nI 0)) (C := RJ4) (T := TJ4) (N := 4) hx hb hts hi_J4 hown hK hP 0 rfl rfl 1 (by decide) (hts _ (List.mem_of_getElem? (i := 2) rfl)) (fun _ h9 => h9) rfl dJ5_ensureCapacityInternal_d00df_6 ?_
  refine ln_shr hx hb ⟨by omega, by omega⟩ dJ5_ensureCapacityInternal_d00df_9 ?_
  rw [show cap / 2 ^ 0 = cap from (by rw [Nat.pow_zero, Nat.div_one])]
  refine lv_istore_n (lv' := [(2, .int (nI cap)), (0, .ref t0), (1, .int (nI m9))]) hx hb dJ5_ensureCapacityInternal_d00df_10 rfl hl (by decide) rfl (fun ls hl => ?_)
  refine lv_iload_n hx hb dJ5_ensureCapacityInternal_d00df_11 rfl (lv_at hl 2 rfl) ?_
  refine lv_iload_n hx hb dJ5_ensureCapacityInternal_d00df_12 rfl (lv_at hl 0 rfl) ?_
  refine ln_sub hx hb (by omega) dJ5_ensureCapacityInternal_d00df_13 ?_
  refine ln_if_le_f (tgt := 38) hx hb (by omega) (by omega) dJ5_ensureCapacityInternal_d00df_14 (by decide) ?_
  refine lv_aload_n hx hb dJ5_ensureCapacityInternal_d00df_17 rfl (lv_at hl 1 rfl) ?_
  refine lv_aload_n hx hb dJ5_ensureCapacityInternal_d00df_18 rfl (lv_at hl 1 rfl) ?_
  refine va_get (D := D) (ci := 4) (v := .ref tv) (C := RJ4) (T := TJ4) (N := 4) hx hb hts hi_J4 hown hK hP 0 rfl rfl 0 (by decide) (hts _ (List.mem_of_getElem? (i := 1) rfl)) (fun _ h9 => h9) rfl dJ5_ensureCapacityInternal_d00df_19 ?_
  refine lv_aload_n hx hb dJ5_ensureCapacityInternal_d00df_22 rfl (lv_at hl 1 rfl) ?_
  refine lv_iload_n hx hb dJ5_ensureCapacityInternal_d00df_23 rfl (lv_at hl 2 rfl) ?_
  refine ro_U (As := [.int (nI m9)]) (rest := [.ref tv, .ref t0]) (wc := [(t0, .inr (4, [.ref tv, .int (nI 0), .int ml, .int (nI cnt)])), (tv, .inl (T 1, cap, .inl fb))]) (r := .int (nI (2 * cap + 2))) ⟨hx, hb, hml, hown, hts⟩ (c_J5_newCapacity l D T g t0 tv ml cnt cap fb m9 hm) (va_cwU 1 hts gJ5_ensureCapacityInternal_d00df_J5_newCapacity_0f7a4_u104J4 rfl rfl rfl rfl (by decide +kernel) ⟨Nat.le_of_ble_eq_true rfl, Nat.le_of_ble_eq_true rfl⟩) (va_recv hK hP (ci := 4) (q0 := 0) rfl rfl) hP hK hG hS [0, 1] rfl ⟨Nat.zero_le _, Nat.zero_le _⟩ rfl hl.1 (Nat.le_of_ble_eq_true rfl) dJ5_ensureCapacityInternal_d00df_24 rfl ?_
  refine lv_aload_n hx hb dJ5_ensureCapacityInternal_d00df_27 rfl (lv_at hl 1 rfl) ?_
  refine va_get (D := D) (ci := 4) (v := .int (nI 0)) (C := RJ4) (T := TJ4) (N := 4) hx hb hts hi_J4 hown hK hP 0 rfl rfl 1 (by decide) (hts _ (List.mem_of_getElem? (i := 2) rfl)) (fun _ h9 => h9) rfl dJ5_ensureCapacityInternal_d00df_28 ?_
  refine ln_shl hx hb ⟨by omega, by omega⟩ dJ5_ensureCapacityInternal_d00df_31 ?_
  rw [show (2 * cap + 2) * 2 ^ 0 = 2 * cap + 2 from (by rw [Nat.pow_zero, Nat.mul_one])]
  refine mu_S (As := [.ref tv, .int (nI (2 * cap + 2))]) (rest := [.ref t0]) (wc := [(tv, .inl (T 1, cap, .inl fb))]) (wr := [(t0, .inr (4, [.ref tv, .int (nI 0), .int ml, .int (nI cnt)]))]) ⟨hx, hb, hml, hown, hts⟩ (c_J7_copyOf l D T g s.heap.size tv cap fb (2 * cap + 2) hfit9 (by omega)) (va_cwS 2 hts gJ5_ensureCapacityInternal_d00df_J7_copyOf_9075b rfl rfl rfl (by decide +kernel) ⟨Nat.le_of_ble_eq_true rfl, Nat.le_of_ble_eq_true rfl⟩) hP hD hK hG hS hA [1] [0] rfl (by decide) rfl (by decide) (by decide) ⟨Nat.le_of_ble_eq_true rfl, Nat.le_of_eq (Nat.zero_add _)⟩ rfl hl.1 (Nat.le_of_ble_eq_true rfl) dJ5_ensureCapacityInternal_d00df_32 rfl (fun u H locs hq3 hP hD hS => ?_)
  obtain ⟨q8_1, F8_2⟩ := u
  refine W.widen (k := 1) (n := (2 * cap + 2)) (Nat.le_of_eq (Nat.zero_add _)) (Nat.le_of_eq (Nat.zero_add _)) ?_
  have hP : va_P D cls [(t0, .inr (4, [.ref tv, .int (nI 0), .int ml, .int (nI cnt)])), (tv, .inl (T 1, cap, .inl fb)), (q8_1, .inl (T 1, (2 * cap + 2), .inl F8_2))] H := hP
  have hD : va_D A [(t0, .inr (4, [.ref tv, .int (nI 0), .int ml, .int (nI cnt)])), (tv, .inl (T 1, cap, .inl fb)), (q8_1, .inl (T 1, (2 * cap + 2), .inl F8_2))] := hD
  have hq3 : sb_Fit F8_2 ∧ ∀ j, j < cap → F8_2 j = fb j := hq3
  refine W.eq (g2 := F0 m 35 ls [.ref q8_1, .ref t0]) rfl ?_
  refine va_put (D := D) (ci := 4) (v := .ref q8_1) (ty := .array .byte) (C := RJ4) (T := TJ4) (N := 4) hx hb hts hi_J4 tyJ4 tyJ4_ok nmJ4 hown hK hP hD hS 0 rfl rfl 0 (by decide) (hts _ (List.mem_of_getElem? (i := 1) rfl)) (fun _ h9 => h9) rfl (by decide +kernel) rfl rfl (Nat.le_of_ble_eq_true rfl) dJ5_ensureCapacityInternal_d00df_35 (fun H locs hP hD hS => ?_)
  have hP : va_P D cls [(t0, .inr (4, [.ref q8_1, .int (nI 0), .int ml, .int (nI cnt)])), (tv, .inl (T 1, cap, .inl fb)), (q8_1, .inl (T 1, (2 * cap + 2), .inl F8_2))] H := hP
  have hD : va_D A [(t0, .inr (4, [.ref q8_1, .int (nI 0), .int ml, .int (nI cnt)])), (tv, .inl (T 1, cap, .inl fb)), (q8_1, .inl (T 1, (2 * cap + 2), .inl F8_2))] := hD
  have hP9 := hP.sub (ws' := [(t0, .inr (4, [.ref q8_1, .int (nI 0), .int ml, .int (nI cnt)])), (q8_1, .inl (T 1, (2 * cap + 2), .inl F8_2))]) [0, 2] rfl
  have hD9 := hD.sub (ws' := [(t0, .inr (4, [.ref q8_1, .int (nI 0), .int ml, .int (nI cnt)])), (q8_1, .inl (T 1, (2 * cap + 2), .inl F8_2))]) [0, 2] (by decide) rfl
  refine W.widen (k := 1) (n := 2 * cap + 2) (by omega) (by omega) ?_
  exact W.vret hx hb hr (fun t ht hW => ⟨⟨(q8_1, F8_2), rfl, show sb_Fit F8_2 ∧ ∀ j, j < cap → F8_2 j = fb j from hq3, (by rw [ht]; exact hP9), va_K.moved hW.alike hK, hD9⟩, hS.F ht⟩) hS.2.2 dJ5_ensureCapacityInternal_d00df_38
set_option maxHeartbeats 4000000 in
set_option maxRecDepth 100000 in
theorem c_J1_canEncode (l : Launch) (D : va_G) (T : Nat → ClassId) (g : Nat → Nat) (x : Nat) (hx9 : x < 256) : RO l yJ1_canEncode_fc78d wsJ1_canEncode_fc78d ({ frames := 0, cells := 0, slots := 0, locals := 0 } : Room) D T g [.int (nI x)] [] (.int (nI 1)) := by
  refine Met.ofW (cc := cJ1_canEncode_fc78d) (maxL := 1) (ret := (some .boolean)) (by decide) rfl ?_
  intro p e s m args below meth c s₁ B hml hv
  obtain ⟨rfl, hP, hK, hG⟩ := hv
  have hx := B.exec
  have hb := B.bytes
  have hr := B.returns
  have hts := atoms_spec (ws := wsJ1_canEncode_fc78d) B.pre
  have hown : s.vm.findClass RJ1 = some m.cls := findClass_of_methodNamed B.named
  have hlocks := B.notSynchronized
  have hS : va_S (fun _ => False) s.heap s.heap [] := va_S.rf
  have hl := lv_entry ([.int (nI x)]) (n := 1) (Nat.le_of_ble_eq_true rfl)
  rw [lg_entry_eq]
  generalize (lg_sl ([.int (nI x)]) ++ List.replicate (1 - (lg_sl ([.int (nI x)])).length) Slot.unset).toArray = ls at hl ⊢
  have hl : lv_has ls 1 [(0, .int (nI x))] := hl
  refine lv_iload_n hx hb dJ1_canEncode_fc78d_0 rfl (lv_at hl 0 rfl) ?_
  refine lv_sipush (v := (nI 255)) hx hb dJ1_canEncode_fc78d_1 (by decide +kernel) ?_
  refine ln_icmp_gt_f (tgt := 11) hx hb ⟨by omega, by omega⟩ (by omega) dJ1_canEncode_fc78d_4 (by decide) ?_
  refine lv_iconst (v := (nI 1)) hx hb dJ1_canEncode_fc78d_7 (by decide +kernel) ?_
  refine lv_goto (tgt := 12) hx hb dJ1_canEncode_fc78d_8 (by decide) ?_
  exact W.zret (v := (nI 1)) (ty := .boolean) hx hb hr (rfl) (fun t ht hW => ⟨(congrArg (fun z => Outcome.returned (some (Value.int z))) (show (nI 1) = (nI 1) from rfl)), ht⟩) (fun q h => nomatch h) dJ1_canEncode_fc78d_12
set_option maxHeartbeats 4000000 in
set_option maxRecDepth 100000 in
theorem c_J5_append_a (l : Launch) (D : va_G) (T : Nat → ClassId) (g : Nat → Nat) (sz : Nat) (t0 : Nat) (tv : Nat) (ml : Int32) (cnt : Nat) (cap : Nat) (fb : Nat → Int32) (x : Nat) (hx9 : x < 128) (hm : cnt < cap ∧ cap ≤ 574) : MU l yJ5_append_3fe6f wsJ5_append_3fe6f ({ frames := 1, cells := 0, slots := 0, locals := 22 } : Room) D T g [.ref t0, .int (nI x)] [(t0, .inr (4, [.ref tv, .int (nI 0), .int ml, .int (nI cnt)])), (tv, .inl (T 1, cap, .inl fb))] sz (fun u : Unit => some (.ref t0)) (fun u : Unit => True) (fun u : Unit => [(t0, .inr (4, [.ref tv, .int (nI 0), .int ml, .int (nI (cnt + 1))])), (tv, .inl (T 1, cap, .inl (upd fb cnt (nI x))))]) 0 0 := by
  refine Met.ofW (cc := cJ5_append_3fe6f) (maxL := 2) (ret := (some (.object "java/lang/AbstractStringBuilder"))) (by decide) rfl ?_
  intro p e s m args below meth c s₁ B hml hv
  obtain ⟨rfl, hsz, hP, hK, hD0, hG⟩ := hv
  have hx := B.exec
  have hb := B.bytes
  have hr := B.returns
  have hts := atoms_spec (ws := wsJ5_append_3fe6f) B.pre
  have hown : s.vm.findClass RJ5 = some m.cls := findClass_of_methodNamed B.named
  have hlocks := B.notSynchronized
  have hi_J4 : ∀ w ∈ wsJ40, w ∈ wsJ5_append_3fe6f := by decide +kernel
  subst hsz
  have hD := hD0.self (sz := s.heap.size)
  generalize hAe : va_A [(t0, .inr (4, [.ref tv, .int (nI 0), .int ml, .int (nI cnt)])), (tv, .inl (T 1, cap, .inl fb))] s.heap.size = A at hD hG ⊢
  have hA : ∀ q : Nat, s.heap.size ≤ q → A q := fun q h => by rw [← hAe]; exact Or.inr h
  have hS : va_S A s.heap s.heap [] := va_S.rf
  have hP : va_P D cls [(t0, .inr (4, [.ref tv, .int (nI 0), .int ml, .int (nI cnt)])), (tv, .inl (T 1, cap, .inl fb))] s.heap := hP
  have hl := lv_entry ([.ref t0, .int (nI x)]) (n := 2) (Nat.le_of_ble_eq_true rfl)
  rw [lg_entry_eq]
  generalize (lg_sl ([.ref t0, .int (nI x)]) ++ List.replicate (2 - (lg_sl ([.ref t0, .int (nI x)])).length) Slot.unset).toArray = ls at hl ⊢
  have hl : lv_has ls 2 [(0, .ref t0), (1, .int (nI x))] := hl
  refine lv_aload_n hx hb dJ5_append_3fe6f_0 rfl (lv_at hl 0 rfl) ?_
  refine lv_aload_n hx hb dJ5_append_3fe6f_1 rfl (lv_at hl 0 rfl) ?_
  refine va_get (D := D) (ci := 4) (v := .int (nI cnt)) (C := RJ4) (T := TJ4) (N := 4) hx hb hts hi_J4 hown hK hP 0 rfl rfl 3 (by decide) (hts _ (List.mem_of_getElem? (i := 1) rfl)) (fun _ h9 => h9) rfl dJ5_append_3fe6f_2 ?_
  refine lv_iconst (v := (nI 1)) hx hb dJ5_append_3fe6f_5 (by decide +kernel) ?_
  refine ln_add hx hb dJ5_append_3fe6f_6 ?_
  refine rv_U (As := [.int (nI (cnt + 1))]) (rest := []) (wc := [(t0, .inr (4, [.ref tv, .int (nI 0), .int ml, .int (nI cnt)])), (tv, .inl (T 1, cap, .inl fb))]) ⟨hx, hb, hml, hown, hts⟩ (c_J5_ensure_a l D T g t0 tv ml cnt cap fb (cnt + 1) (by omega)) (va_cwU 1 hts gJ5_append_3fe6f_J5_ensureCapacityInternal_d00df_u100J4 rfl rfl rfl rfl (by decide +kernel) ⟨Nat.le_of_ble_eq_true rfl, Nat.le_of_ble_eq_true rfl⟩) (va_recv hK hP (ci := 4) (q0 := 0) rfl rfl) hP hK hG hS [0, 1] rfl ⟨Nat.zero_le _, Nat.zero_le _⟩ rfl hl.1 (Nat.le_of_ble_eq_true rfl) dJ5_append_3fe6f_7 rfl ?_
  refine lv_aload_n hx hb dJ5_append_3fe6f_10 rfl (lv_at hl 0 rfl) ?_
  refine ro_U (As := []) (rest := []) (wc := [(t0, .inr (4, [.ref tv, .int (nI 0), .int ml, .int (nI cnt)])), (tv, .inl (T 1, cap, .inl fb))]) (r := .int (nI 1)) ⟨hx, hb, hml, hown, hts⟩ (c_J5_isLatin1 l D T g t0 tv ml cnt cap fb) (va_cwU 0 hts gJ5_append_3fe6f_J5_isLatin1_aae02_u83J4 rfl rfl rfl rfl (by decide +kernel) ⟨Nat.le_of_ble_eq_true rfl, Nat.le_of_ble_eq_true rfl⟩) (va_recv hK hP (ci := 4) (q0 := 0) rfl rfl) hP hK hG hS [0, 1] rfl ⟨Nat.zero_le _, Nat.zero_le _⟩ rfl hl.1 (Nat.le_of_ble_eq_true rfl) dJ5_append_3fe6f_11 rfl ?_
  refine ln_if_eq_f (tgt := 45) hx hb (by omega) (by decide) dJ5_append_3fe6f_14 (by decide) ?_
  refine lv_iload_n hx hb dJ5_append_3fe6f_17 rfl (lv_at hl 1 rfl) ?_
  refine ro_S (As := [.int (nI x)]) (rest := []) (wc := []) (r := .int (nI 1)) ⟨hx, hb, hml, hown, hts⟩ (c_J1_canEncode l D T g x (by omega)) (va_cwS 1 hts gJ5_append_3fe6f_J1_canEncode_fc78d rfl rfl rfl (by decide +kernel) ⟨Nat.le_of_ble_eq_true rfl, Nat.le_of_ble_eq_true rfl⟩) hP hK hG hS [] rfl ⟨Nat.zero_le _, Nat.zero_le _⟩ rfl hl.1 (Nat.le_of_ble_eq_true rfl) dJ5_append_3fe6f_18 rfl ?_
  refine ln_if_eq_f (tgt := 45) hx hb (by omega) (by decide) dJ5_append_3fe6f_21 (by decide) ?_
  refine lv_aload_n hx hb dJ5_append_3fe6f_24 rfl (lv_at hl 0 rfl) ?_
  refine va_get (D := D) (ci := 4) (v := .ref tv) (C := RJ4) (T := TJ4) (N := 4) hx hb hts hi_J4 hown hK hP 0 rfl rfl 0 (by decide) (hts _ (List.mem_of_getElem? (i := 2) rfl)) (fun _ h9 => h9) rfl dJ5_append_3fe6f_25 ?_
  refine lv_aload_n hx hb dJ5_append_3fe6f_28 rfl (lv_at hl 0 rfl) ?_
  refine lv_dup hx hb dJ5_append_3fe6f_29 rfl ?_
  refine va_get (D := D) (ci := 4) (v := .int (nI cnt)) (C := RJ4) (T := TJ4) (N := 4) hx hb hts hi_J4 hown hK hP 0 rfl rfl 3 (by decide) (hts _ (List.mem_of_getElem? (i := 1) rfl)) (fun _ h9 => h9) rfl dJ5_append_3fe6f_30 ?_
  refine lv_dup_x1 hx hb dJ5_append_3fe6f_33 rfl rfl ?_
  refine lv_iconst (v := (nI 1)) hx hb dJ5_append_3fe6f_34 (by decide +kernel) ?_
  refine ln_add hx hb dJ5_append_3fe6f_35 ?_
  refine va_put (D := D) (ci := 4) (v := .int (nI (cnt + 1))) (ty := .int) (C := RJ4) (T := TJ4) (N := 4) hx hb hts hi_J4 tyJ4 tyJ4_ok nmJ4 hown hK hP hD hS 0 rfl rfl 3 (by decide) (hts _ (List.mem_of_getElem? (i := 1) rfl)) (fun _ h9 => h9) rfl (by decide +kernel) rfl rfl (Nat.le_of_ble_eq_true rfl) dJ5_append_3fe6f_36 (fun H locs hP hD hS => ?_)
  have hP : va_P D cls [(t0, .inr (4, [.ref tv, .int (nI 0), .int ml, .int (nI (cnt + 1))])), (tv, .inl (T 1, cap, .inl fb))] H := hP
  have hD : va_D A [(t0, .inr (4, [.ref tv, .int (nI 0), .int ml, .int (nI (cnt + 1))])), (tv, .inl (T 1, cap, .inl fb))] := hD
  refine lv_iload_n hx hb dJ5_append_3fe6f_39 rfl (lv_at hl 1 rfl) ?_
  refine lv_i2b hx hb dJ5_append_3fe6f_40 (v := (nI x)) (i2bN x hx9) ?_
  refine ln_bast hx hb hK hP hD hS 1 1 rfl rfl ⟨by omega, by omega⟩ dJ5_append_3fe6f_41 (fun H locs hP hD hS => ?_)
  have hP : va_P D cls [(t0, .inr (4, [.ref tv, .int (nI 0), .int ml, .int (nI (cnt + 1))])), (tv, .inl (T 1, cap, .inl (upd fb cnt (vp_nar .byte (nI x)))))] H := hP
  have hD : va_D A [(t0, .inr (4, [.ref tv, .int (nI 0), .int ml, .int (nI (cnt + 1))])), (tv, .inl (T 1, cap, .inl (upd fb cnt (vp_nar .byte (nI x)))))] := hD
  rw [nar8 hx9] at hP hD
  refine lv_goto (tgt := 75) hx hb dJ5_append_3fe6f_42 (by decide) ?_
  refine lv_aload_n hx hb dJ5_append_3fe6f_75 rfl (lv_at hl 0 rfl) ?_
  have hP9 := hP.sub (ws' := [(t0, .inr (4, [.ref tv, .int (nI 0), .int ml, .int (nI (cnt + 1))])), (tv, .inl (T 1, cap, .inl (upd fb cnt (nI x))))]) [0, 1] rfl
  have hD9 := hD.sub (ws' := [(t0, .inr (4, [.ref tv, .int (nI 0), .int ml, .int (nI (cnt + 1))])), (tv, .inl (T 1, cap, .inl (upd fb cnt (nI x))))]) [0, 1] (by decide) rfl
  exact W.aret (v := .ref t0) hx hb hr (Or.inl ⟨_, rfl⟩) (Or.inr ⟨_, rfl⟩) (fun t ht hW => ⟨⟨(), rfl, trivial, (by rw [ht]; exact hP9), va_K.moved hW.alike hK, hD9⟩, hS.F ht⟩) hS.2.2 dJ5_append_3fe6f_76
set_option maxHeartbeats 4000000 in
set_option maxRecDepth 100000 in
theorem c_J5_append_b (l : Launch) (D : va_G) (T : Nat → ClassId) (g : Nat → Nat) (sz : Nat) (t0 : Nat) (tv : Nat) (ml : Int32) (cnt : Nat) (cap : Nat) (fb : Nat → Int32) (x : Nat) (hfit9 : sb_Fit fb) (hx9 : x < 128) (hm : cnt = cap ∧ cap ≤ 574) : MU l yJ5_append_3fe6f wsJ5_append_3fe6f ({ frames := 4, cells := 1, slots := 2 * cap + 2, locals := 114 } : Room) D T g [.ref t0, .int (nI x)] [(t0, .inr (4, [.ref tv, .int (nI 0), .int ml, .int (nI cnt)])), (tv, .inl (T 1, cap, .inl fb))] sz (fun u : Nat × (Nat → Int32) => some (.ref t0)) (fun u : Nat × (Nat → Int32) => sb_Fit u.2 ∧ ∀ j, j < cap → u.2 j = fb j) (fun u : Nat × (Nat → Int32) => [(t0, .inr (4, [.ref u.1, .int (nI 0), .int ml, .int (nI (cnt + 1))])), (u.1, .inl (T 1, 2 * cap + 2, .inl (upd u.2 cnt (nI x))))]) 1 (2 * cap + 2) := by
  refine Met.ofW (cc := cJ5_append_3fe6f) (maxL := 2) (ret := (some (.object "java/lang/AbstractStringBuilder"))) (by decide) rfl ?_
  intro p e s m args below meth c s₁ B hml hv
  obtain ⟨rfl, hsz, hP, hK, hD0, hG⟩ := hv
  have hx := B.exec
  have hb := B.bytes
  have hr := B.returns
  have hts := atoms_spec (ws := wsJ5_append_3fe6f) B.pre
  have hown : s.vm.findClass RJ5 = some m.cls := findClass_of_methodNamed B.named
  have hlocks := B.notSynchronized
  have hi_J4 : ∀ w ∈ wsJ40, w ∈ wsJ5_append_3fe6f := by decide +kernel
  subst hsz
  have hD := hD0.self (sz := s.heap.size)
  generalize hAe : va_A [(t0, .inr (4, [.ref tv, .int (nI 0), .int ml, .int (nI cnt)])), (tv, .inl (T 1, cap, .inl fb))] s.heap.size = A at hD hG ⊢
  have hA : ∀ q : Nat, s.heap.size ≤ q → A q := fun q h => by rw [← hAe]; exact Or.inr h
  have hS : va_S A s.heap s.heap [] := va_S.rf
  have hP : va_P D cls [(t0, .inr (4, [.ref tv, .int (nI 0), .int ml, .int (nI cnt)])), (tv, .inl (T 1, cap, .inl fb))] s.heap := hP
  have hl := lv_entry ([.ref t0, .int (nI x)]) (n := 2) (Nat.le_of_ble_eq_true rfl)
  rw [lg_entry_eq]
  generalize (lg_sl ([.ref t0, .int (nI x)]) ++ List.replicate (2 - (lg_sl ([.ref t0, .int (nI x)])).length) Slot.unset).toArray = ls at hl ⊢
  have hl : lv_has ls 2 [(0, .ref t0), (1, .int (nI x))] := hl
  refine lv_aload_n hx hb dJ5_append_3fe6f_0 rfl (lv_at hl 0 rfl) ?_
  refine lv_aload_n hx hb dJ5_append_3fe6f_1 rfl (lv_at hl 0 rfl) ?_
  refine va_get (D := D) (ci := 4) (v := .int (nI cnt)) (C := RJ4) (T := TJ4) (N := 4) hx hb hts hi_J4 hown hK hP 0 rfl rfl 3 (by decide) (hts _ (List.mem_of_getElem? (i := 1) rfl)) (fun _ h9 => h9) rfl dJ5_append_3fe6f_2 ?_
  refine lv_iconst (v := (nI 1)) hx hb dJ5_append_3fe6f_5 (by decide +kernel) ?_
  refine ln_add hx hb dJ5_append_3fe6f_6 ?_
  refine mu_U (As := [.int (nI (cnt + 1))]) (rest := []) (wc := [(t0, .inr (4, [.ref tv, .int (nI 0), .int ml, .int (nI cnt)])), (tv, .inl (T 1, cap, .inl fb))]) (wr := []) ⟨hx, hb, hml, hown, hts⟩ (c_J5_ensure_b l D T g s.heap.size t0 tv ml cnt cap fb (cnt + 1) hfit9 (by omega)) (va_cwU 1 hts gJ5_append_3fe6f_J5_ensureCapacityInternal_d00df_u100J4 rfl rfl rfl rfl (by decide +kernel) ⟨Nat.le_of_ble_eq_true rfl, Nat.le_of_ble_eq_true rfl⟩) (va_recv hK hP (ci := 4) (q0 := 0) rfl rfl) hP hD hK hG hS hA [0, 1] [] rfl (by decide) rfl (by decide) (by decide) ⟨Nat.le_of_ble_eq_true rfl, Nat.le_of_eq (Nat.zero_add _)⟩ rfl hl.1 (Nat.le_of_ble_eq_true rfl) dJ5_append_3fe6f_7 rfl (fun u H locs hq3 hP hD hS => ?_)
  obtain ⟨q8_1, F8_2⟩ := u
  refine W.widen (k := 1) (n := 2 * cap + 2) (Nat.le_of_eq (Nat.zero_add _)) (Nat.le_of_eq (Nat.zero_add _)) ?_
  have hP : va_P D cls [(t0, .inr (4, [.ref q8_1, .int (nI 0), .int ml, .int (nI cnt)])), (q8_1, .inl (T 1, 2 * cap + 2, .inl F8_2))] H := hP
  have hD : va_D A [(t0, .inr (4, [.ref q8_1, .int (nI 0), .int ml, .int (nI cnt)])), (q8_1, .inl (T 1, 2 * cap + 2, .inl F8_2))] := hD
  have hq3 : sb_Fit F8_2 ∧ ∀ j, j < cap → F8_2 j = fb j := hq3
  refine W.eq (g2 := F0 m 10 ls []) rfl ?_
  refine lv_aload_n hx hb dJ5_append_3fe6f_10 rfl (lv_at hl 0 rfl) ?_
  refine ro_U (R := (headSpec wsJ5_append_3fe6f ({ frames := 4, cells := 1, slots := 2 * cap + 2, locals := 114 } : Room)).room) (As := []) (rest := []) (wc := [(t0, .inr (4, [.ref q8_1, .int (nI 0), .int ml, .int (nI cnt)])), (q8_1, .inl (T 1, 2 * cap + 2, .inl F8_2))]) (r := .int (nI 1)) ⟨hx, hb, hml, hown, hts⟩ (c_J5_isLatin1 l D T g t0 q8_1 ml cnt (2 * cap + 2) F8_2) (va_cwU 0 hts gJ5_append_3fe6f_J5_isLatin1_aae02_u83J4 rfl rfl rfl rfl (by decide +kernel) ⟨Nat.le_of_ble_eq_true rfl, Nat.le_of_ble_eq_true rfl⟩) (va_recv hK hP (ci := 4) (q0 := 0) rfl rfl) hP hK hG hS [0, 1] rfl ⟨Nat.le_refl _, Nat.le_refl _⟩ rfl hl.1 (Nat.le_of_ble_eq_true rfl) dJ5_append_3fe6f_11 rfl ?_
  refine ln_if_eq_f (tgt := 45) hx hb (by omega) (by decide) dJ5_append_3fe6f_14 (by decide) ?_
  refine lv_iload_n hx hb dJ5_append_3fe6f_17 rfl (lv_at hl 1 rfl) ?_
  refine ro_S (R := (headSpec wsJ5_append_3fe6f ({ frames := 4, cells := 1, slots := 2 * cap + 2, locals := 114 } : Room)).room) (As := [.int (nI x)]) (rest := []) (wc := []) (r := .int (nI 1)) ⟨hx, hb, hml, hown, hts⟩ (c_J1_canEncode l D T g x (by omega)) (va_cwS 1 hts gJ5_append_3fe6f_J1_canEncode_fc78d rfl rfl rfl (by decide +kernel) ⟨Nat.le_of_ble_eq_true rfl, Nat.le_of_ble_eq_true rfl⟩) hP hK hG hS [] rfl ⟨Nat.le_refl _, Nat.le_refl _⟩ rfl hl.1 (Nat.le_of_ble_eq_true rfl) dJ5_append_3fe6f_18 rfl ?_
  refine ln_if_eq_f (tgt := 45) hx hb (by omega) (by decide) dJ5_append_3fe6f_21 (by decide) ?_
  refine lv_aload_n hx hb dJ5_append_3fe6f_24 rfl (lv_at hl 0 rfl) ?_
  refine va_get (D := D) (ci := 4) (v := .ref q8_1) (C := RJ4) (T := TJ4) (N := 4) hx hb hts hi_J4 hown hK hP 0 rfl rfl 0 (by decide) (hts _ (List.mem_of_getElem? (i := 2) rfl)) (fun _ h9 => h9) rfl dJ5_append_3fe6f_25 ?_
  refine lv_aload_n hx hb dJ5_append_3fe6f_28 rfl (lv_at hl 0 rfl) ?_
  refine lv_dup hx hb dJ5_append_3fe6f_29 rfl ?_
  refine va_get (D := D) (ci := 4) (v := .int (nI cnt)) (C := RJ4) (T := TJ4) (N := 4) hx hb hts hi_J4 hown hK hP 0 rfl rfl 3 (by decide) (hts _ (List.mem_of_getElem? (i := 1) rfl)) (fun _ h9 => h9) rfl dJ5_append_3fe6f_30 ?_
  refine lv_dup_x1 hx hb dJ5_append_3fe6f_33 rfl rfl ?_
  refine lv_iconst (v := (nI 1)) hx hb dJ5_append_3fe6f_34 (by decide +kernel) ?_
  refine ln_add hx hb dJ5_append_3fe6f_35 ?_
  refine va_put (D := D) (ci := 4) (v := .int (nI (cnt + 1))) (ty := .int) (C := RJ4) (T := TJ4) (N := 4) hx hb hts hi_J4 tyJ4 tyJ4_ok nmJ4 hown hK hP hD hS 0 rfl rfl 3 (by decide) (hts _ (List.mem_of_getElem? (i := 1) rfl)) (fun _ h9 => h9) rfl (by decide +kernel) rfl rfl (Nat.le_of_ble_eq_true rfl) dJ5_append_3fe6f_36 (fun H locs hP hD hS => ?_)
  have hP : va_P D cls [(t0, .inr (4, [.ref q8_1, .int (nI 0), .int ml, .int (nI (cnt + 1))])), (q8_1, .inl (T 1, 2 * cap + 2, .inl F8_2))] H := hP
  have hD : va_D A [(t0, .inr (4, [.ref q8_1, .int (nI 0), .int ml, .int (nI (cnt + 1))])), (q8_1, .inl (T 1, 2 * cap + 2, .inl F8_2))] := hD
  refine lv_iload_n hx hb dJ5_append_3fe6f_39 rfl (lv_at hl 1 rfl) ?_
  refine lv_i2b hx hb dJ5_append_3fe6f_40 (v := (nI x)) (i2bN x hx9) ?_
  refine ln_bast hx hb hK hP hD hS 1 1 rfl rfl ⟨by omega, by omega⟩ dJ5_append_3fe6f_41 (fun H locs hP hD hS => ?_)
  have hP : va_P D cls [(t0, .inr (4, [.ref q8_1, .int (nI 0), .int ml, .int (nI (cnt + 1))])), (q8_1, .inl (T 1, 2 * cap + 2, .inl (upd F8_2 cnt (vp_nar .byte (nI x)))))] H := hP
  have hD : va_D A [(t0, .inr (4, [.ref q8_1, .int (nI 0), .int ml, .int (nI (cnt + 1))])), (q8_1, .inl (T 1, 2 * cap + 2, .inl (upd F8_2 cnt (vp_nar .byte (nI x)))))] := hD
  rw [nar8 hx9] at hP hD
  refine lv_goto (tgt := 75) hx hb dJ5_append_3fe6f_42 (by decide) ?_
  refine lv_aload_n hx hb dJ5_append_3fe6f_75 rfl (lv_at hl 0 rfl) ?_
  have hP9 := hP.sub (ws' := [(t0, .inr (4, [.ref q8_1, .int (nI 0), .int ml, .int (nI (cnt + 1))])), (q8_1, .inl (T 1, 2 * cap + 2, .inl (upd F8_2 cnt (nI x))))]) [0, 1] rfl
  have hD9 := hD.sub (ws' := [(t0, .inr (4, [.ref q8_1, .int (nI 0), .int ml, .int (nI (cnt + 1))])), (q8_1, .inl (T 1, 2 * cap + 2, .inl (upd F8_2 cnt (nI x))))]) [0, 1] (by decide) rfl
  exact W.aret (v := .ref t0) hx hb hr (Or.inl ⟨_, rfl⟩) (Or.inr ⟨_, rfl⟩) (fun t ht hW => ⟨⟨(q8_1, F8_2), rfl, show sb_Fit F8_2 ∧ ∀ j, j < cap → F8_2 j = fb j from hq3, (by rw [ht]; exact hP9), va_K.moved hW.alike hK, hD9⟩, hS.F ht⟩) hS.2.2 dJ5_append_3fe6f_76
