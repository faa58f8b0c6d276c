set_option maxHeartbeats 4000000 in
set_option maxRecDepth 100000 in
/-- gives out the whole bytes that are held -/
theorem c_X1_release (l : Launch) (D : va_G) (T : Nat → ClassId) (g : Nat → Nat) (sz : Nat) (r0 : Nat) (fr : Nat) (fq : Nat) (F : Nat → Int32) (nF : Nat) (Bt : Nat) (hd : Nat) (cf : Nat → Nat) (hb9 : RB F nF cf) (hh : hd ≤ 4 ∧ Bt < 16777216 ∧ nF + 3 ≤ 440) : MU l yX1_release wsX1_release ({ frames := 1, cells := 0, slots := 0, locals := 21 } : Room) D T g [.ref r0] [(r0, .inr (1, [.ref fr, .int (nI Bt), .int (nI hd)])), (fr, .inr (0, [.ref fq, .int (nI nF)])), (fq, .inl (T 0, 440, .inl F))] sz (fun u : Nat → Int32 => none) (fun u : Nat → Int32 => RB u (nF + hd * 6 / 8) (relN cf nF Bt hd)) (fun u : Nat → Int32 => [(r0, .inr (1, [.ref fr, .int (nI 0), .int (nI 0)])), (fr, .inr (0, [.ref fq, .int (nI (nF + hd * 6 / 8))])), (fq, .inl (T 0, 440, .inl u))]) 0 0 := by
  refine Met.ofW (cc := cX1_release) (maxL := 2) (ret := none) (by decide) rfl ?_
  intro p e s m args below meth c s₁ B hml hv
  obtain ⟨rfl, hsz, hP, hK, hD0, hG⟩ := hv
  have hx := B.exec
  have hb := B.bytes
  have hr := B.returns
  have hts := atoms_spec (ws := wsX1_release) B.pre
  have hown : s.vm.findClass RX1 = some m.cls := findClass_of_methodNamed B.named
  have hlocks := B.notSynchronized
  have hi_X1 : ∀ w ∈ wsX10, w ∈ wsX1_release := by decide +kernel
  subst hsz
  have hD := hD0.self (sz := s.heap.size)
  generalize hAe : va_A [(r0, .inr (1, [.ref fr, .int (nI Bt), .int (nI hd)])), (fr, .inr (0, [.ref fq, .int (nI nF)])), (fq, .inl (T 0, 440, .inl F))] s.heap.size = A at hD hG ⊢
  have hA : ∀ q : Nat, s.heap.size ≤ q → A q := fun q h => by rw [← hAe]; exact Or.inr h
  have hS : va_S A s.heap s.heap [] := va_S.rf
  have hP : va_P D cls [(r0, .inr (1, [.ref fr, .int (nI Bt), .int (nI hd)])), (fr, .inr (0, [.ref fq, .int (nI nF)])), (fq, .inl (T 0, 440, .inl F))] s.heap := hP
  have hl := lv_entry ([.ref r0]) (n := 2) (Nat.le_of_ble_eq_true rfl)
  rw [lg_entry_eq]
  generalize (lg_sl ([.ref r0]) ++ List.replicate (2 - (lg_sl ([.ref r0])).length) Slot.unset).toArray = ls at hl ⊢
  have hl : lv_has ls 2 [(0, .ref r0)] := hl
  refine lv_aload_n hx hb dX1_release_0 rfl (lv_at hl 0 rfl) ?_
  refine va_get (D := D) (ci := 1) (v := .int (nI hd)) (C := RX1) (T := TX1) (N := 3) hx hb hts hi_X1 hown hK hP 0 rfl rfl 2 (by decide) (hts _ (List.mem_of_getElem? (i := 1) rfl)) (fun _ h9 => h9) rfl dX1_release_1 ?_
  refine lv_bipush (v := (nI 6)) hx hb dX1_release_4 (by decide +kernel) ?_
  refine ln_mul hx hb dX1_release_6 ?_
  refine lv_istore_n (lv' := [(1, .int (nI (hd * 6))), (0, .ref r0)]) hx hb dX1_release_7 rfl hl (by decide) rfl (fun ls hl => ?_)
  have K1 : ∀ (N9 : Nat) (v : Nat) (i : Nat) (F1 : Nat → Int32), (v + 8 * i = hd * 6) → (RB F1 (nF + i) (relN cf nF Bt hd)) → v < N9 → ∀ (H : Heap) (locs : List Loc), va_P D cls [(r0, .inr (1, [.ref fr, .int (nI Bt), .int (nI hd)])), (fr, .inr (0, [.ref fq, .int (nI (nF + i))])), (fq, .inl (T 0, 440, .inl F1))] H → va_D A [(r0, .inr (1, [.ref fr, .int (nI Bt), .int (nI hd)])), (fr, .inr (0, [.ref fq, .int (nI (nF + i))])), (fq, .inl (T 0, 440, .inl F1))] → va_S A s.heap H locs → ∀ ls : Array Slot, lv_has ls 2 [(0, .ref r0), (1, .int (nI v))] → W p l e (headSpec wsX1_release ({ frames := 1, cells := 0, slots := 0, locals := 21 } : Room)).room s m ([.ref r0] : List Value).toArray below meth c H locs 0 0 (MQ below (QM D T A (fun u : Nat → Int32 => none) (fun u : Nat → Int32 => RB u (nF + hd * 6 / 8) (relN cf nF Bt hd)) (fun u : Nat → Int32 => [(r0, .inr (1, [.ref fr, .int (nI 0), .int (nI 0)])), (fr, .inr (0, [.ref fq, .int (nI (nF + hd * 6 / 8))])), (fq, .inl (T 0, 440, .inl u))])) ([.ref r0] : List Value).toArray s 0 0 A) (F0 m 8 ls []) := by
    intro N9
    induction N9 with
    | zero => intro v i F1 hv hF h9; exact absurd h9 (Nat.not_lt_zero _)
    | succ N9 ih =>
      intro v i F1 hv hF h9 H locs hP hD hS ls hl
      refine lv_iload_n hx hb dX1_release_8 rfl (lv_at hl 1 rfl) ?_
      refine lv_bipush (v := (nI 8)) hx hb dX1_release_9 (by decide +kernel) ?_
      refine ln_icmp_lt (tgt := 37) hx hb ⟨by omega, by omega⟩ dX1_release_11 (by decide) (fun c_11 => ?_) (fun c_11 => ?_)
      · have e9 : nF + i = nF + hd * 6 / 8 := by omega
        rw [e9] at hP hD hF
        refine lv_aload_n hx hb dX1_release_37 rfl (lv_at hl 0 rfl) ?_
        refine lv_iconst (v := (nI 0)) hx hb dX1_release_38 (by decide +kernel) ?_
        refine va_put (D := D) (ci := 1) (v := .int (nI 0)) (ty := .int) (C := RX1) (T := TX1) (N := 3) hx hb hts hi_X1 tyX1 tyX1_ok nmX1 hown hK hP hD hS 0 rfl rfl 1 (by decide) (hts _ (List.mem_of_getElem? (i := 3) rfl)) (fun _ h9 => h9) rfl (by decide +kernel) rfl rfl (Nat.le_of_ble_eq_true rfl) dX1_release_39 (fun H locs hP hD hS => ?_)
        have hP : va_P D cls [(r0, .inr (1, [.ref fr, .int (nI 0), .int (nI hd)])), (fr, .inr (0, [.ref fq, .int (nI (nF + hd * 6 / 8))])), (fq, .inl (T 0, 440, .inl F1))] H := hP
        have hD : va_D A [(r0, .inr (1, [.ref fr, .int (nI 0), .int (nI hd)])), (fr, .inr (0, [.ref fq, .int (nI (nF + hd * 6 / 8))])), (fq, .inl (T 0, 440, .inl F1))] := hD
        refine lv_aload_n hx hb dX1_release_42 rfl (lv_at hl 0 rfl) ?_
        refine lv_iconst (v := (nI 0)) hx hb dX1_release_43 (by decide +kernel) ?_
        refine va_put (D := D) (ci := 1) (v := .int (nI 0)) (ty := .int) (C := RX1) (T := TX1) (N := 3) hx hb hts hi_X1 tyX1 tyX1_ok nmX1 hown hK hP hD hS 0 rfl rfl 2 (by decide) (hts _ (List.mem_of_getElem? (i := 1) rfl)) (fun _ h9 => h9) rfl (by decide +kernel) rfl rfl (Nat.le_of_ble_eq_true rfl) dX1_release_44 (fun H locs hP hD hS => ?_)
        have hP : va_P D cls [(r0, .inr (1, [.ref fr, .int (nI 0), .int (nI 0)])), (fr, .inr (0, [.ref fq, .int (nI (nF + hd * 6 / 8))])), (fq, .inl (T 0, 440, .inl F1))] H := hP
        have hD : va_D A [(r0, .inr (1, [.ref fr, .int (nI 0), .int (nI 0)])), (fr, .inr (0, [.ref fq, .int (nI (nF + hd * 6 / 8))])), (fq, .inl (T 0, 440, .inl F1))] := hD
        have hP9 := hP.sub (ws' := [(r0, .inr (1, [.ref fr, .int (nI 0), .int (nI 0)])), (fr, .inr (0, [.ref fq, .int (nI (nF + hd * 6 / 8))])), (fq, .inl (T 0, 440, .inl F1))]) [0, 1, 2] rfl
        have hD9 := hD.sub (ws' := [(r0, .inr (1, [.ref fr, .int (nI 0), .int (nI 0)])), (fr, .inr (0, [.ref fq, .int (nI (nF + hd * 6 / 8))])), (fq, .inl (T 0, 440, .inl F1))]) [0, 1, 2] (by decide) rfl
        exact W.vret hx hb hr (fun t ht hW => ⟨⟨F1, rfl, hF, (by rw [ht]; exact hP9), va_K.moved hW.alike hK, hD9⟩, hS.F ht⟩) hS.2.2 dX1_release_47
      · refine lv_iinc (v := (nI (v - 8))) (lv' := [(1, .int (nI (v - 8))), (0, .ref r0)]) hx hb dX1_release_14 hl (k := 1) rfl (ni_dec8 (by omega)) (by decide) rfl (fun ls hl => ?_)
        refine lv_aload_n hx hb dX1_release_17 rfl (lv_at hl 1 rfl) ?_
        refine va_get (D := D) (ci := 1) (v := .ref fr) (C := RX1) (T := TX1) (N := 3) hx hb hts hi_X1 hown hK hP 0 rfl rfl 0 (by decide) (hts _ (List.mem_of_getElem? (i := 2) rfl)) (fun _ h9 => h9) rfl dX1_release_18 ?_
        refine lv_aload_n hx hb dX1_release_21 rfl (lv_at hl 1 rfl) ?_
        refine va_get (D := D) (ci := 1) (v := .int (nI Bt)) (C := RX1) (T := TX1) (N := 3) hx hb hts hi_X1 hown hK hP 0 rfl rfl 1 (by decide) (hts _ (List.mem_of_getElem? (i := 3) rfl)) (fun _ h9 => h9) rfl dX1_release_22 ?_
        refine lv_iload_n hx hb dX1_release_25 rfl (lv_at hl 0 rfl) ?_
        refine ln_shr hx hb ⟨by omega, by omega⟩ dX1_release_26 ?_
        refine lv_sipush (v := (nI 255)) hx hb dX1_release_27 (by decide +kernel) ?_
        refine ln_and hx hb 8 (Nat.lt_of_le_of_lt (Nat.div_le_self _ _) (by omega)) (by decide +kernel) dX1_release_30 ?_
        refine mu_V (As := [.int (nI ((Bt / 2 ^ (v - 8)) % 2 ^ 8))]) (rest := []) (wc := [(fr, .inr (0, [.ref fq, .int (nI (nF + i))])), (fq, .inl (T 0, 440, .inl F1))]) (wr := [(r0, .inr (1, [.ref fr, .int (nI Bt), .int (nI hd)]))]) ⟨hx, hb, hml, hown, hts⟩ (c_X2_append l D T g H.size fr fq F1 (nF + i) (nI ((Bt / 2 ^ (v - 8)) % 2 ^ 8)) (by omega)) (cwV 1 hts gX1_release_X2_append rfl rfl rfl (by decide +kernel) ⟨Nat.le_of_ble_eq_true rfl, Nat.le_of_ble_eq_true rfl⟩) (va_recv hK hP (ci := 0) (q0 := 1) rfl rfl) hP hD hK hG hS hA [1, 2] [0] rfl (by decide) rfl (by decide) (by decide) ⟨Nat.le_of_ble_eq_true rfl, Nat.le_of_ble_eq_true rfl⟩ rfl hl.1 (Nat.le_of_ble_eq_true rfl) dX1_release_31 rfl (fun u H locs hq2 hP hD hS => ?_)
        have hP : va_P D cls [(r0, .inr (1, [.ref fr, .int (nI Bt), .int (nI hd)])), (fr, .inr (0, [.ref fq, .int (nI ((nF + i) + 1))])), (fq, .inl (T 0, 440, .inl (upd F1 (nF + i) (nI ((Bt / 2 ^ (v - 8)) % 2 ^ 8)))))] H := hP
        have hD : va_D A [(r0, .inr (1, [.ref fr, .int (nI Bt), .int (nI hd)])), (fr, .inr (0, [.ref fq, .int (nI ((nF + i) + 1))])), (fq, .inl (T 0, 440, .inl (upd F1 (nF + i) (nI ((Bt / 2 ^ (v - 8)) % 2 ^ 8)))))] := hD
        refine W.eq (g2 := F0 m 34 ls []) rfl ?_
        refine lv_goto (tgt := 8) hx hb dX1_release_34 (by decide) ?_
        exact ih (v - 8) (i + 1) (upd F1 (nF + i) (nI ((Bt / 2 ^ (v - 8)) % 2 ^ 8))) (by omega) (RB_next hF (by omega) (by unfold relN; rw [if_neg (by omega), show hd * 6 - 8 * (nF + i - nF + 1) = v - 8 from by omega]) (Nat.mod_lt _ (by decide))) (by omega) _ _ (hP.sub (ws' := [(r0, .inr (1, [.ref fr, .int (nI Bt), .int (nI hd)])), (fr, .inr (0, [.ref fq, .int (nI ((nF + i) + 1))])), (fq, .inl (T 0, 440, .inl (upd F1 (nF + i) (nI ((Bt / 2 ^ (v - 8)) % 2 ^ 8)))))]) [0, 1, 2] rfl) (hD.sub (ws' := [(r0, .inr (1, [.ref fr, .int (nI Bt), .int (nI hd)])), (fr, .inr (0, [.ref fq, .int (nI ((nF + i) + 1))])), (fq, .inl (T 0, 440, .inl (upd F1 (nF + i) (nI ((Bt / 2 ^ (v - 8)) % 2 ^ 8)))))]) [0, 1, 2] (by decide) rfl) hS ls (lv_sub hl [1, 0] rfl)
  exact K1 _ (hd * 6) 0 F (by omega) (RB_cong hb9 (fun j hj => (if_pos hj).symm)) (Nat.lt_succ_self _) _ _ (hP.sub (ws' := [(r0, .inr (1, [.ref fr, .int (nI Bt), .int (nI hd)])), (fr, .inr (0, [.ref fq, .int (nI nF)])), (fq, .inl (T 0, 440, .inl F))]) [0, 1, 2] rfl) (hD.sub (ws' := [(r0, .inr (1, [.ref fr, .int (nI Bt), .int (nI hd)])), (fr, .inr (0, [.ref fq, .int (nI nF)])), (fq, .inl (T 0, 440, .inl F))]) [0, 1, 2] (by decide) rfl) hS ls (lv_sub hl [1, 0] rfl)
set_option maxHeartbeats 4000000 in
set_option maxRecDepth 100000 in
/-- takes a letter, the group isn't full -/
theorem c_X1_take_a (l : Launch) (D : va_G) (T : Nat → ClassId) (g : Nat → Nat) (sz : Nat) (r0 : Nat) (fr : Nat) (fq : Nat) (F : Nat → Int32) (nF : Nat) (Bt : Nat) (hd : Nat) (w : Nat) (hh : hd < 3 ∧ Bt < 262144 ∧ w < 64) : MU l yX1_take wsX1_take ({ frames := 0, cells := 0, slots := 0, locals := 0 } : Room) D T g [.ref r0, .int (nI w)] [(r0, .inr (1, [.ref fr, .int (nI Bt), .int (nI hd)])), (fr, .inr (0, [.ref fq, .int (nI nF)])), (fq, .inl (T 0, 440, .inl F))] sz (fun u : Unit => none) (fun u : Unit => True) (fun u : Unit => [(r0, .inr (1, [.ref fr, .int (nI (Bt * 64 + w)), .int (nI (hd + 1))])), (fr, .inr (0, [.ref fq, .int (nI nF)])), (fq, .inl (T 0, 440, .inl F))]) 0 0 := by
  refine Met.ofW (cc := cX1_take) (maxL := 2) (ret := none) (by decide) rfl ?_
  intro p e s m args below meth c s₁ B hml hv
  obtain ⟨rfl, hsz, hP, hK, hD0, hG⟩ := hv
  have hx := B.exec
  have hb := B.bytes
  have hr := B.returns
  have hts := atoms_spec (ws := wsX1_take) B.pre
  have hown : s.vm.findClass RX1 = some m.cls := findClass_of_methodNamed B.named
  have hlocks := B.notSynchronized
  have hi_X1 : ∀ w ∈ wsX10, w ∈ wsX1_take := by decide +kernel
  subst hsz
  have hD := hD0.self (sz := s.heap.size)
  generalize hAe : va_A [(r0, .inr (1, [.ref fr, .int (nI Bt), .int (nI hd)])), (fr, .inr (0, [.ref fq, .int (nI nF)])), (fq, .inl (T 0, 440, .inl F))] s.heap.size = A at hD hG ⊢
  have hA : ∀ q : Nat, s.heap.size ≤ q → A q := fun q h => by rw [← hAe]; exact Or.inr h
  have hS : va_S A s.heap s.heap [] := va_S.rf
  have hP : va_P D cls [(r0, .inr (1, [.ref fr, .int (nI Bt), .int (nI hd)])), (fr, .inr (0, [.ref fq, .int (nI nF)])), (fq, .inl (T 0, 440, .inl F))] s.heap := hP
  have hl := lv_entry ([.ref r0, .int (nI w)]) (n := 2) (Nat.le_of_ble_eq_true rfl)
  rw [lg_entry_eq]
  generalize (lg_sl ([.ref r0, .int (nI w)]) ++ List.replicate (2 - (lg_sl ([.ref r0, .int (nI w)])).length) Slot.unset).toArray = ls at hl ⊢
  have hl : lv_has ls 2 [(0, .ref r0), (1, .int (nI w))] := hl
  refine lv_aload_n hx hb dX1_take_0 rfl (lv_at hl 0 rfl) ?_
  refine lv_aload_n hx hb dX1_take_1 rfl (lv_at hl 0 rfl) ?_
  refine va_get (D := D) (ci := 1) (v := .int (nI Bt)) (C := RX1) (T := TX1) (N := 3) hx hb hts hi_X1 hown hK hP 0 rfl rfl 1 (by decide) (hts _ (List.mem_of_getElem? (i := 1) rfl)) (fun _ h9 => h9) rfl dX1_take_2 ?_
  refine lv_bipush (v := (nI 6)) hx hb dX1_take_5 (by decide +kernel) ?_
  refine ln_shl hx hb ⟨by omega, by omega⟩ dX1_take_7 ?_
  refine lv_iload_n hx hb dX1_take_8 rfl (lv_at hl 1 rfl) ?_
  refine ln_or hx hb (v := Bt * 64 + w) (or6 hh.2.2) dX1_take_9 ?_
  refine va_put (D := D) (ci := 1) (v := .int (nI (Bt * 64 + w))) (ty := .int) (C := RX1) (T := TX1) (N := 3) hx hb hts hi_X1 tyX1 tyX1_ok nmX1 hown hK hP hD hS 0 rfl rfl 1 (by decide) (hts _ (List.mem_of_getElem? (i := 1) rfl)) (fun _ h9 => h9) rfl (by decide +kernel) rfl rfl (Nat.le_of_ble_eq_true rfl) dX1_take_10 (fun H locs hP hD hS => ?_)
  have hP : va_P D cls [(r0, .inr (1, [.ref fr, .int (nI (Bt * 64 + w)), .int (nI hd)])), (fr, .inr (0, [.ref fq, .int (nI nF)])), (fq, .inl (T 0, 440, .inl F))] H := hP
  have hD : va_D A [(r0, .inr (1, [.ref fr, .int (nI (Bt * 64 + w)), .int (nI hd)])), (fr, .inr (0, [.ref fq, .int (nI nF)])), (fq, .inl (T 0, 440, .inl F))] := hD
  refine lv_aload_n hx hb dX1_take_13 rfl (lv_at hl 0 rfl) ?_
  refine lv_dup hx hb dX1_take_14 rfl ?_
  refine va_get (D := D) (ci := 1) (v := .int (nI hd)) (C := RX1) (T := TX1) (N := 3) hx hb hts hi_X1 hown hK hP 0 rfl rfl 2 (by decide) (hts _ (List.mem_of_getElem? (i := 2) rfl)) (fun _ h9 => h9) rfl dX1_take_15 ?_
  refine lv_iconst (v := (nI 1)) hx hb dX1_take_18 (by decide +kernel) ?_
  refine ln_add hx hb dX1_take_19 ?_
  refine va_put (D := D) (ci := 1) (v := .int (nI (hd + 1))) (ty := .int) (C := RX1) (T := TX1) (N := 3) hx hb hts hi_X1 tyX1 tyX1_ok nmX1 hown hK hP hD hS 0 rfl rfl 2 (by decide) (hts _ (List.mem_of_getElem? (i := 2) rfl)) (fun _ h9 => h9) rfl (by decide +kernel) rfl rfl (Nat.le_of_ble_eq_true rfl) dX1_take_20 (fun H locs hP hD hS => ?_)
  have hP : va_P D cls [(r0, .inr (1, [.ref fr, .int (nI (Bt * 64 + w)), .int (nI (hd + 1))])), (fr, .inr (0, [.ref fq, .int (nI nF)])), (fq, .inl (T 0, 440, .inl F))] H := hP
  have hD : va_D A [(r0, .inr (1, [.ref fr, .int (nI (Bt * 64 + w)), .int (nI (hd + 1))])), (fr, .inr (0, [.ref fq, .int (nI nF)])), (fq, .inl (T 0, 440, .inl F))] := hD
  refine lv_aload_n hx hb dX1_take_23 rfl (lv_at hl 0 rfl) ?_
  refine va_get (D := D) (ci := 1) (v := .int (nI (hd + 1))) (C := RX1) (T := TX1) (N := 3) hx hb hts hi_X1 hown hK hP 0 rfl rfl 2 (by decide) (hts _ (List.mem_of_getElem? (i := 2) rfl)) (fun _ h9 => h9) rfl dX1_take_24 ?_
  refine lv_iconst (v := (nI 4)) hx hb dX1_take_27 (by decide +kernel) ?_
  refine ln_icmp_ne_t (tgt := 35) hx hb ⟨by omega, by omega⟩ (by omega) dX1_take_28 (by decide) ?_
  have hP9 := hP.sub (ws' := [(r0, .inr (1, [.ref fr, .int (nI (Bt * 64 + w)), .int (nI (hd + 1))])), (fr, .inr (0, [.ref fq, .int (nI nF)])), (fq, .inl (T 0, 440, .inl F))]) [0, 1, 2] rfl
  have hD9 := hD.sub (ws' := [(r0, .inr (1, [.ref fr, .int (nI (Bt * 64 + w)), .int (nI (hd + 1))])), (fr, .inr (0, [.ref fq, .int (nI nF)])), (fq, .inl (T 0, 440, .inl F))]) [0, 1, 2] (by decide) rfl
  exact W.vret hx hb hr (fun t ht hW => ⟨⟨(), rfl, trivial, (by rw [ht]; exact hP9), va_K.moved hW.alike hK, hD9⟩, hS.F ht⟩) hS.2.2 dX1_take_35
set_option maxHeartbeats 4000000 in
set_option maxRecDepth 100000 in
/-- takes a letter, the group is full -/
theorem c_X1_take_b (l : Launch) (D : va_G) (T : Nat → ClassId) (g : Nat → Nat) (sz : Nat) (r0 : Nat) (fr : Nat) (fq : Nat) (F : Nat → Int32) (nF : Nat) (Bt : Nat) (w : Nat) (cf : Nat → Nat) (hb9 : RB F nF cf) (hh : Bt < 262144 ∧ w < 64 ∧ nF + 3 ≤ 440) : MU l yX1_take wsX1_take ({ frames := 2, cells := 0, slots := 0, locals := 42 } : Room) D T g [.ref r0, .int (nI w)] [(r0, .inr (1, [.ref fr, .int (nI Bt), .int (nI 3)])), (fr, .inr (0, [.ref fq, .int (nI nF)])), (fq, .inl (T 0, 440, .inl F))] sz (fun u : Nat → Int32 => none) (fun u : Nat → Int32 => RB u (nF + 3) (relN cf nF (Bt * 64 + w) 4)) (fun u : Nat → Int32 => [(r0, .inr (1, [.ref fr, .int (nI 0), .int (nI 0)])), (fr, .inr (0, [.ref fq, .int (nI (nF + 3))])), (fq, .inl (T 0, 440, .inl u))]) 0 0 := by
  refine Met.ofW (cc := cX1_take) (maxL := 2) (ret := none) (by decide) rfl ?_
  intro p e s m args below meth c s₁ B hml hv
  obtain ⟨rfl, hsz, hP, hK, hD0, hG⟩ := hv
  have hx := B.exec
  have hb := B.bytes
  have hr := B.returns
  have hts := atoms_spec (ws := wsX1_take) B.pre
  have hown : s.vm.findClass RX1 = some m.cls := findClass_of_methodNamed B.named
  have hlocks := B.notSynchronized
  have hi_X1 : ∀ w ∈ wsX10, w ∈ wsX1_take := by decide +kernel
  subst hsz
  have hD := hD0.self (sz := s.heap.size)
  generalize hAe : va_A [(r0, .inr (1, [.ref fr, .int (nI Bt), .int (nI 3)])), (fr, .inr (0, [.ref fq, .int (nI nF)])), (fq, .inl (T 0, 440, .inl F))] s.heap.size = A at hD hG ⊢
  have hA : ∀ q : Nat, s.heap.size ≤ q → A q := fun q h => by rw [← hAe]; exact Or.inr h
  have hS : va_S A s.heap s.heap [] := va_S.rf
  have hP : va_P D cls [(r0, .inr (1, [.ref fr, .int (nI Bt), .int (nI 3)])), (fr, .inr (0, [.ref fq, .int (nI nF)])), (fq, .inl (T 0, 440, .inl F))] s.heap := hP
  have hl := lv_entry ([.ref r0, .int (nI w)]) (n := 2) (Nat.le_of_ble_eq_true rfl)
  rw [lg_entry_eq]
  generalize (lg_sl ([.ref r0, .int (nI w)]) ++ List.replicate (2 - (lg_sl ([.ref r0, .int (nI w)])).length) Slot.unset).toArray = ls at hl ⊢
  have hl : lv_has ls 2 [(0, .ref r0), (1, .int (nI w))] := hl
  refine lv_aload_n hx hb dX1_take_0 rfl (lv_at hl 0 rfl) ?_
  refine lv_aload_n hx hb dX1_take_1 rfl (lv_at hl 0 rfl) ?_
  refine va_get (D := D) (ci := 1) (v := .int (nI Bt)) (C := RX1) (T := TX1) (N := 3) hx hb hts hi_X1 hown hK hP 0 rfl rfl 1 (by decide) (hts _ (List.mem_of_getElem? (i := 1) rfl)) (fun _ h9 => h9) rfl dX1_take_2 ?_
  refine lv_bipush (v := (nI 6)) hx hb dX1_take_5 (by decide +kernel) ?_
  refine ln_shl hx hb ⟨by omega, by omega⟩ dX1_take_7 ?_
  refine lv_iload_n hx hb dX1_take_8 rfl (lv_at hl 1 rfl) ?_
  refine ln_or hx hb (v := Bt * 64 + w) (or6 hh.2.1) dX1_take_9 ?_
  refine va_put (D := D) (ci := 1) (v := .int (nI (Bt * 64 + w))) (ty := .int) (C := RX1) (T := TX1) (N := 3) hx hb hts hi_X1 tyX1 tyX1_ok nmX1 hown hK hP hD hS 0 rfl rfl 1 (by decide) (hts _ (List.mem_of_getElem? (i := 1) rfl)) (fun _ h9 => h9) rfl (by decide +kernel) rfl rfl (Nat.le_of_ble_eq_true rfl) dX1_take_10 (fun H locs hP hD hS => ?_)
  have hP : va_P D cls [(r0, .inr (1, [.ref fr, .int (nI (Bt * 64 + w)), .int (nI 3)])), (fr, .inr (0, [.ref fq, .int (nI nF)])), (fq, .inl (T 0, 440, .inl F))] H := hP
  have hD : va_D A [(r0, .inr (1, [.ref fr, .int (nI (Bt * 64 + w)), .int (nI 3)])), (fr, .inr (0, [.ref fq, .int (nI nF)])), (fq, .inl (T 0, 440, .inl F))] := hD
  refine lv_aload_n hx hb dX1_take_13 rfl (lv_at hl 0 rfl) ?_
  refine lv_dup hx hb dX1_take_14 rfl ?_
  refine va_get (D := D) (ci := 1) (v := .int (nI 3)) (C := RX1) (T := TX1) (N := 3) hx hb hts hi_X1 hown hK hP 0 rfl rfl 2 (by decide) (hts _ (List.mem_of_getElem? (i := 2) rfl)) (fun _ h9 => h9) rfl dX1_take_15 ?_
  refine lv_iconst (v := (nI 1)) hx hb dX1_take_18 (by decide +kernel) ?_
  refine ln_add hx hb dX1_take_19 ?_
  refine va_put (D := D) (ci := 1) (v := .int (nI (3 + 1))) (ty := .int) (C := RX1) (T := TX1) (N := 3) hx hb hts hi_X1 tyX1 tyX1_ok nmX1 hown hK hP hD hS 0 rfl rfl 2 (by decide) (hts _ (List.mem_of_getElem? (i := 2) rfl)) (fun _ h9 => h9) rfl (by decide +kernel) rfl rfl (Nat.le_of_ble_eq_true rfl) dX1_take_20 (fun H locs hP hD hS => ?_)
  have hP : va_P D cls [(r0, .inr (1, [.ref fr, .int (nI (Bt * 64 + w)), .int (nI (3 + 1))])), (fr, .inr (0, [.ref fq, .int (nI nF)])), (fq, .inl (T 0, 440, .inl F))] H := hP
  have hD : va_D A [(r0, .inr (1, [.ref fr, .int (nI (Bt * 64 + w)), .int (nI (3 + 1))])), (fr, .inr (0, [.ref fq, .int (nI nF)])), (fq, .inl (T 0, 440, .inl F))] := hD
  refine lv_aload_n hx hb dX1_take_23 rfl (lv_at hl 0 rfl) ?_
  refine va_get (D := D) (ci := 1) (v := .int (nI (3 + 1))) (C := RX1) (T := TX1) (N := 3) hx hb hts hi_X1 hown hK hP 0 rfl rfl 2 (by decide) (hts _ (List.mem_of_getElem? (i := 2) rfl)) (fun _ h9 => h9) rfl dX1_take_24 ?_
  refine lv_iconst (v := (nI 4)) hx hb dX1_take_27 (by decide +kernel) ?_
  refine ln_icmp_ne_f (tgt := 35) hx hb ⟨by omega, by omega⟩ (rfl) dX1_take_28 (by decide) ?_
  refine lv_aload_n hx hb dX1_take_31 rfl (lv_at hl 0 rfl) ?_
  refine mu_V (As := []) (rest := []) (wc := [(r0, .inr (1, [.ref fr, .int (nI (Bt * 64 + w)), .int (nI (3 + 1))])), (fr, .inr (0, [.ref fq, .int (nI nF)])), (fq, .inl (T 0, 440, .inl F))]) (wr := []) ⟨hx, hb, hml, hown, hts⟩ (c_X1_release l D T g H.size r0 fr fq F nF (Bt * 64 + w) (3 + 1) cf (hb9) (by omega)) (cwV 0 hts gX1_take_X1_release rfl rfl rfl (by decide +kernel) ⟨Nat.le_of_ble_eq_true rfl, Nat.le_of_ble_eq_true rfl⟩) (va_recv hK hP (ci := 1) (q0 := 0) rfl rfl) hP hD hK hG hS hA [0, 1, 2] [] rfl (by decide) rfl (by decide) (by decide) ⟨Nat.le_of_ble_eq_true rfl, Nat.le_of_ble_eq_true rfl⟩ rfl hl.1 (Nat.le_of_ble_eq_true rfl) dX1_take_32 rfl (fun u H locs hq2 hP hD hS => ?_)
  obtain ⟨F1_1, hu9⟩ : ∃ z, z = u := ⟨_, rfl⟩
  subst hu9
  have hP : va_P D cls [(r0, .inr (1, [.ref fr, .int (nI 0), .int (nI 0)])), (fr, .inr (0, [.ref fq, .int (nI (nF + (3 + 1) * 6 / 8))])), (fq, .inl (T 0, 440, .inl F1_1))] H := hP
  have hD : va_D A [(r0, .inr (1, [.ref fr, .int (nI 0), .int (nI 0)])), (fr, .inr (0, [.ref fq, .int (nI (nF + (3 + 1) * 6 / 8))])), (fq, .inl (T 0, 440, .inl F1_1))] := hD
  have hq2 : RB F1_1 (nF + (3 + 1) * 6 / 8) (relN cf nF (Bt * 64 + w) (3 + 1)) := hq2
  refine W.eq (g2 := F0 m 35 ls []) rfl ?_
  have hP9 := hP.sub (ws' := [(r0, .inr (1, [.ref fr, .int (nI 0), .int (nI 0)])), (fr, .inr (0, [.ref fq, .int (nI (nF + (3 + 1) * 6 / 8))])), (fq, .inl (T 0, 440, .inl F1_1))]) [0, 1, 2] rfl
  have hD9 := hD.sub (ws' := [(r0, .inr (1, [.ref fr, .int (nI 0), .int (nI 0)])), (fr, .inr (0, [.ref fq, .int (nI (nF + (3 + 1) * 6 / 8))])), (fq, .inl (T 0, 440, .inl F1_1))]) [0, 1, 2] (by decide) rfl
  exact W.vret hx hb hr (fun t ht hW => ⟨⟨F1_1, rfl, hq2, (by rw [ht]; exact hP9), va_K.moved hW.alike hK, hD9⟩, hS.F ht⟩) hS.2.2 dX1_take_35
set_option maxHeartbeats 4000000 in
set_option maxRecDepth 100000 in
/-- whether a row ends well -/
theorem c_X1_isEndedWell (l : Launch) (D : va_G) (T : Nat → ClassId) (g : Nat → Nat) (r0 : Nat) (fr : Nat) (Bt : Int32) (hd : Nat) (h0 : Nat) (q0 : Nat) (f : Nat → Int32) (n : Nat) (k : Nat) (p9 : Nat) (b : Nat → Nat) (hb9 : RB f n b) (hk : k < 3) (hh : hd < 4 ∧ p9 ≤ 440) : RO l yX1_isEndedWell wsX1_isEndedWell ({ frames := 2, cells := 0, slots := 0, locals := 42 } : Room) D T g [.ref r0, .ref h0, .ref (g k), .int (nI p9)] [(r0, .inr (1, [.ref fr, .int Bt, .int (nI hd)])), (h0, .inr (0, [.ref q0, .int (nI n)])), (q0, .inl (T 0, 440, .inl f))] (.int (bI (ewB k n b p9 hd))) := by
  refine Met.ofW (cc := cX1_isEndedWell) (maxL := 6) (ret := (some .boolean)) (by decide) rfl ?_
  intro p e s m args below meth c s₁ B hml hv
  obtain ⟨rfl, hP, hK, hG⟩ := hv
  have hx := B.exec
  have hb := B.bytes
  have hr := B.returns
  have hts := atoms_spec (ws := wsX1_isEndedWell) B.pre
  have hown : s.vm.findClass RX1 = some m.cls := findClass_of_methodNamed B.named
  have hlocks := B.notSynchronized
  have hi_X1 : ∀ w ∈ wsX10, w ∈ wsX1_isEndedWell := by decide +kernel
  have hi_X2 : ∀ w ∈ wsX20, w ∈ wsX1_isEndedWell := by decide +kernel
  have hS : va_S (fun _ => False) s.heap s.heap [] := va_S.rf
  have hl := lv_entry ([.ref r0, .ref h0, .ref (g k), .int (nI p9)]) (n := 6) (Nat.le_of_ble_eq_true rfl)
  rw [lg_entry_eq]
  generalize (lg_sl ([.ref r0, .ref h0, .ref (g k), .int (nI p9)]) ++ List.replicate (6 - (lg_sl ([.ref r0, .ref h0, .ref (g k), .int (nI p9)])).length) Slot.unset).toArray = ls at hl ⊢
  have hl : lv_has ls 6 [(0, .ref r0), (1, .ref h0), (2, .ref (g k)), (3, .int (nI p9))] := hl
  have hn := hb9.1
  have kh := kH_lt k
  refine lv_iload_n hx hb dX1_isEndedWell_0 rfl (lv_at hl 3 rfl) ?_
  refine lv_aload_n hx hb dX1_isEndedWell_1 rfl (lv_at hl 1 rfl) ?_
  refine va_getN (D := D) (ci := 0) (v := .int (nI n)) (C := RX2) (T := TX2) (N := 2) hx hb hts hi_X2 hown hK hP 1 rfl rfl 1 (by decide) (va_Nw.use rfl (hG.2.2.2.2.2.2.2.1 _ (List.mem_of_getElem? (i := 1) rfl))) (fun _ h9 => h9) rfl dX1_isEndedWell_2 ?_
  refine ln_icmp_lt (tgt := 10) hx hb ⟨by omega, by omega⟩ dX1_isEndedWell_5 (by decide) (fun c_5 => ?_) (fun c_5 => ?_)
  · refine lv_aload_n hx hb dX1_isEndedWell_10 rfl (lv_at hl 0 rfl) ?_
    refine va_get (D := D) (ci := 1) (v := .int (nI hd)) (C := RX1) (T := TX1) (N := 3) hx hb hts hi_X1 hown hK hP 0 rfl rfl 2 (by decide) (hts _ (List.mem_of_getElem? (i := 1) rfl)) (fun _ h9 => h9) rfl dX1_isEndedWell_11 ?_
    refine ln_if_ne (tgt := 19) hx hb (by omega) dX1_isEndedWell_14 (by decide) (fun c_14 => ?_) (fun c_14 => ?_)
    · refine lv_iload_n hx hb dX1_isEndedWell_19 rfl (lv_at hl 3 rfl) ?_
      refine lv_iconst (v := (nI 4)) hx hb dX1_isEndedWell_20 (by decide +kernel) ?_
      refine ln_add hx hb dX1_isEndedWell_21 ?_
      refine lv_aload_n hx hb dX1_isEndedWell_22 rfl (lv_at hl 0 rfl) ?_
      refine va_get (D := D) (ci := 1) (v := .int (nI hd)) (C := RX1) (T := TX1) (N := 3) hx hb hts hi_X1 hown hK hP 0 rfl rfl 2 (by decide) (hts _ (List.mem_of_getElem? (i := 1) rfl)) (fun _ h9 => h9) rfl dX1_isEndedWell_23 ?_
      refine ln_sub hx hb (by omega) dX1_isEndedWell_26 ?_
      refine lv_istore (lv' := [(4, .int (nI ((p9 + 4) - hd))), (0, .ref r0), (1, .ref h0), (2, .ref (g k)), (3, .int (nI p9))]) hx hb dX1_isEndedWell_27 hl (by decide) rfl (fun ls hl => ?_)
      refine lv_iload_n hx hb dX1_isEndedWell_29 rfl (lv_at hl 4 rfl) ?_
      refine lv_istore (lv' := [(5, .int (nI p9)), (4, .int (nI ((p9 + 4) - hd))), (0, .ref r0), (1, .ref h0), (2, .ref (g k)), (3, .int (nI p9))]) hx hb dX1_isEndedWell_30 hl (by decide) rfl (fun ls hl => ?_)
      have K1 : ∀ (N9 : Nat) (i : Nat), (i ≤ 4 - hd) → (∀ j, j < i → atN n b (p9 + j) = 61) → 4 - hd - i < N9 → ∀ ls : Array Slot, lv_has ls 6 [(0, .ref r0), (1, .ref h0), (2, .ref (g k)), (3, .int (nI p9)), (4, .int (nI (p9 + 4 - hd))), (5, .int (nI (p9 + i)))] → W p l e (headSpec wsX1_isEndedWell ({ frames := 2, cells := 0, slots := 0, locals := 42 } : Room)).room s m ([.ref r0, .ref h0, .ref (g k), .int (nI p9)] : List Value).toArray below meth c s.heap [] 0 0 (MQ below (k2_QcV (.int (bI (ewB k n b p9 hd)))) ([.ref r0, .ref h0, .ref (g k), .int (nI p9)] : List Value).toArray s 0 0 (fun _ => False)) (F0 m 32 ls []) := by
        intro N9
        induction N9 with
        | zero => intro i hi hq h9; exact absurd h9 (Nat.not_lt_zero _)
        | succ N9 ih =>
          intro i hi hq h9 ls hl
          refine lv_iload hx hb dX1_isEndedWell_32 (lv_at hl 5 rfl) ?_
          refine lv_iload hx hb dX1_isEndedWell_34 (lv_at hl 4 rfl) ?_
          refine ln_icmp_ge (tgt := 58) hx hb ⟨by omega, by omega⟩ dX1_isEndedWell_36 (by decide) (fun c_36 => ?_) (fun c_36 => ?_)
          · refine lv_iload hx hb dX1_isEndedWell_58 (lv_at hl 4 rfl) ?_
            refine lv_istore (lv' := [(5, .int (nI (p9 + 4 - hd))), (0, .ref r0), (1, .ref h0), (2, .ref (g k)), (3, .int (nI p9)), (4, .int (nI (p9 + 4 - hd)))]) hx hb dX1_isEndedWell_60 hl (by decide) rfl (fun ls hl => ?_)
            have K2 : ∀ (N9 : Nat) (j : Nat), (p9 + 4 - hd ≤ j ∧ j ≤ 444) → (∀ x, x < j → p9 + 4 - hd ≤ x → k = 2 ∧ isL k (b x) = false) → n - j < N9 → ∀ ls : Array Slot, lv_has ls 6 [(0, .ref r0), (1, .ref h0), (2, .ref (g k)), (5, .int (nI j))] → W p l e (headSpec wsX1_isEndedWell ({ frames := 2, cells := 0, slots := 0, locals := 42 } : Room)).room s m ([.ref r0, .ref h0, .ref (g k), .int (nI p9)] : List Value).toArray below meth c s.heap [] 0 0 (MQ below (k2_QcV (.int (bI (ewB k n b p9 hd)))) ([.ref r0, .ref h0, .ref (g k), .int (nI p9)] : List Value).toArray s 0 0 (fun _ => False)) (F0 m 62 ls []) := by
              intro N9
              induction N9 with
              | zero => intro j hj hz h9; exact absurd h9 (Nat.not_lt_zero _)
              | succ N9 ih =>
                intro j hj hz h9 ls hl
                refine lv_iload hx hb dX1_isEndedWell_62 (lv_at hl 3 rfl) ?_
                refine lv_aload_n hx hb dX1_isEndedWell_64 rfl (lv_at hl 1 rfl) ?_
                refine va_getN (D := D) (ci := 0) (v := .int (nI n)) (C := RX2) (T := TX2) (N := 2) hx hb hts hi_X2 hown hK hP 1 rfl rfl 1 (by decide) (va_Nw.use rfl (hG.2.2.2.2.2.2.2.1 _ (List.mem_of_getElem? (i := 1) rfl))) (fun _ h9 => h9) rfl dX1_isEndedWell_65 ?_
                refine ln_icmp_ge (tgt := 99) hx hb ⟨by omega, by omega⟩ dX1_isEndedWell_68 (by decide) (fun c_68 => ?_) (fun c_68 => ?_)
                · refine lv_iconst (v := (nI 1)) hx hb dX1_isEndedWell_99 (by decide +kernel) ?_
                  exact W.zret (v := (nI 1)) (ty := .boolean) hx hb hr (rfl) (fun t ht hW => ⟨(congrArg (fun z => Outcome.returned (some (Value.int z))) (show (nI 1) = (bI (ewB k n b p9 hd)) from bI_t (decide_eq_true (Or.inr ⟨by omega, fun j0 hj0 => hq j0 (by omega), fun x h1 h2 => hz x (by omega) h2⟩)))), ht⟩) (fun q h => nomatch h) dX1_isEndedWell_100
                · refine lv_aload_n hx hb dX1_isEndedWell_71 rfl (lv_at hl 2 rfl) ?_
                  refine va_getEN hx hb hG.1 (show _ < KN.length from hk) hS hown (q := FK[2]) (List.mem_of_getElem? (i := 2) rfl) (va_Nw.use rfl (hG.2.2.2.2.2.2.2.1 _ (List.mem_of_getElem? (i := 7) rfl))) (fun _ h9 => h9) dX1_isEndedWell_72 ?_
                  rw [show (FK[2]).2.2.2.getD k 0 = nI (kH k) from k_f2 _ (hk)]
                  refine ln_if_eq (tgt := 91) hx hb (by omega) dX1_isEndedWell_75 (by decide) (fun c_75 => ?_) (fun c_75 => ?_)
                  · refine lv_iconst (v := (nI 0)) hx hb dX1_isEndedWell_91 (by decide +kernel) ?_
                    exact W.zret (v := (nI 0)) (ty := .boolean) hx hb hr (rfl) (fun t ht hW => ⟨(congrArg (fun z => Outcome.returned (some (Value.int z))) (show (nI 0) = (bI (ewB k n b p9 hd)) from (by first | exact bI_f (decide_eq_false (fun q => by rcases q with q | q; exact absurd q (by omega); exact kH_2.mp c_75 (q.2.2 j (by omega) (by omega)).1)) | exact bI_f (decide_eq_false (fun q => by rcases q with q | q; exact absurd q (by omega); exact absurd (q.2.2 j (by omega) (by omega)).2 (by rw [bI_nz.mp c_88]; decide)))))), ht⟩) (fun q h => nomatch h) dX1_isEndedWell_92
                  · refine lv_aload_n hx hb dX1_isEndedWell_78 rfl (lv_at hl 2 rfl) ?_
                    refine lv_aload_n hx hb dX1_isEndedWell_79 rfl (lv_at hl 1 rfl) ?_
                    refine lv_iload hx hb dX1_isEndedWell_80 (lv_at hl 3 rfl) ?_
                    refine ro_V (As := [.int (nI j)]) (rest := [.ref (g k)]) (wc := [(h0, .inr (0, [.ref q0, .int (nI n)])), (q0, .inl (T 0, 440, .inl f))]) (r := .int (nI (b j))) ⟨hx, hb, hml, hown, hts⟩ (c_X2_atB l D T g h0 q0 f n j b hb9 (by omega)) (cwV 1 hts gX1_isEndedWell_X2_at rfl rfl rfl (by decide +kernel) ⟨Nat.le_of_ble_eq_true rfl, Nat.le_of_ble_eq_true rfl⟩) (va_recv hK hP (ci := 0) (q0 := 1) rfl rfl) hP hK hG hS [1, 2] rfl ⟨Nat.zero_le _, Nat.zero_le _⟩ rfl hl.1 (Nat.le_of_ble_eq_true rfl) dX1_isEndedWell_82 rfl ?_
                    refine ro_V (As := [.int (nI (b j))]) (rest := []) (wc := []) (r := .int (bI (isL k (b j)))) ⟨hx, hb, hml, hown, hts⟩ (c_X0_isLetter l D T g k (b j) hk ((hb9.2 j (by omega)).2)) (cwV 1 hts gX1_isEndedWell_X0_isLetter rfl rfl rfl (by decide +kernel) ⟨Nat.le_of_ble_eq_true rfl, Nat.le_of_ble_eq_true rfl⟩) (va_recvE hG.1 (show _ < KN.length from hk) hS) hP hK hG hS [] rfl ⟨Nat.zero_le _, Nat.zero_le _⟩ rfl hl.1 (Nat.le_of_ble_eq_true rfl) dX1_isEndedWell_85 rfl ?_
                    refine lv_if_eq (tgt := 93) hx hb dX1_isEndedWell_88 (by decide) (fun c_88 => ?_) (fun c_88 => ?_)
                    · refine lv_iinc (v := (nI (j + 1))) (lv' := [(5, .int (nI (j + 1))), (0, .ref r0), (1, .ref h0), (2, .ref (g k))]) hx hb dX1_isEndedWell_93 hl (k := 3) rfl (ni_inc1 _) (by decide) rfl (fun ls hl => ?_)
                      refine lv_goto (tgt := 62) hx hb dX1_isEndedWell_96 (by decide) ?_
                      exact ih (j + 1) (by omega) (fun x h1 h2 => by
                            by_cases e9 : x = j
                            · subst e9; exact ⟨Decidable.not_not.mp (fun q => c_75 (kH_2.mpr q)), bI_z.mp c_88⟩
                            · exact hz x (by omega) h2) (by omega) ls (lv_sub hl [1, 2, 3, 0] rfl)
                    · refine lv_iconst (v := (nI 0)) hx hb dX1_isEndedWell_91 (by decide +kernel) ?_
                      exact W.zret (v := (nI 0)) (ty := .boolean) hx hb hr (rfl) (fun t ht hW => ⟨(congrArg (fun z => Outcome.returned (some (Value.int z))) (show (nI 0) = (bI (ewB k n b p9 hd)) from (by first | exact bI_f (decide_eq_false (fun q => by rcases q with q | q; exact absurd q (by omega); exact kH_2.mp c_75 (q.2.2 j (by omega) (by omega)).1)) | exact bI_f (decide_eq_false (fun q => by rcases q with q | q; exact absurd q (by omega); exact absurd (q.2.2 j (by omega) (by omega)).2 (by rw [bI_nz.mp c_88]; decide)))))), ht⟩) (fun q h => nomatch h) dX1_isEndedWell_92
            exact K2 _ (p9 + 4 - hd) (by omega) (fun x h1 h2 => by omega) (Nat.lt_succ_self _) ls (lv_sub hl [1, 2, 3, 0] rfl)
          · refine lv_aload_n hx hb dX1_isEndedWell_39 rfl (lv_at hl 1 rfl) ?_
            refine lv_iload hx hb dX1_isEndedWell_40 (lv_at hl 5 rfl) ?_
            refine ro_V (As := [.int (nI (p9 + i))]) (rest := []) (wc := [(h0, .inr (0, [.ref q0, .int (nI n)])), (q0, .inl (T 0, 440, .inl f))]) (r := .int (nI (atN n b (p9 + i)))) ⟨hx, hb, hml, hown, hts⟩ (c_X2_at l D T g h0 q0 f n (p9 + i) b hb9 (by omega)) (cwV 1 hts gX1_isEndedWell_X2_at rfl rfl rfl (by decide +kernel) ⟨Nat.le_of_ble_eq_true rfl, Nat.le_of_ble_eq_true rfl⟩) (va_recv hK hP (ci := 0) (q0 := 1) rfl rfl) hP hK hG hS [1, 2] rfl ⟨Nat.zero_le _, Nat.zero_le _⟩ rfl hl.1 (Nat.le_of_ble_eq_true rfl) dX1_isEndedWell_42 rfl ?_
            have hx1 := atN_lt hb9 (p9 + i)
            refine lv_bipush (v := (nI 61)) hx hb dX1_isEndedWell_45 (by decide +kernel) ?_
            refine ln_icmp_eq (tgt := 52) hx hb ⟨by omega, by omega⟩ dX1_isEndedWell_47 (by decide) (fun c_47 => ?_) (fun c_47 => ?_)
            · refine lv_iinc (v := (nI ((p9 + i) + 1))) (lv' := [(5, .int (nI ((p9 + i) + 1))), (0, .ref r0), (1, .ref h0), (2, .ref (g k)), (3, .int (nI p9)), (4, .int (nI (p9 + 4 - hd)))]) hx hb dX1_isEndedWell_52 hl (k := 5) rfl (ni_inc1 _) (by decide) rfl (fun ls hl => ?_)
              refine lv_goto (tgt := 32) hx hb dX1_isEndedWell_55 (by decide) ?_
              exact ih (i + 1) (by omega) (fun j hj => by
                    by_cases e9 : j = i
                    · subst e9; exact c_47
                    · exact hq j (by omega)) (by omega) ls (lv_sub hl [1, 2, 3, 4, 5, 0] rfl)
            · refine lv_iconst (v := (nI 0)) hx hb dX1_isEndedWell_50 (by decide +kernel) ?_
              exact W.zret (v := (nI 0)) (ty := .boolean) hx hb hr (rfl) (fun t ht hW => ⟨(congrArg (fun z => Outcome.returned (some (Value.int z))) (show (nI 0) = (bI (ewB k n b p9 hd)) from bI_f (decide_eq_false (fun q => by rcases q with q | q; exact absurd q (by omega); exact c_47 (q.2.1 i (by omega)))))), ht⟩) (fun q h => nomatch h) dX1_isEndedWell_51
      exact K1 _ 0 (by omega) (fun j hj => absurd hj (Nat.not_lt_zero _)) (Nat.lt_succ_self _) ls (lv_sub hl [2, 3, 4, 5, 1, 0] rfl)
    · refine lv_iconst (v := (nI 0)) hx hb dX1_isEndedWell_17 (by decide +kernel) ?_
      exact W.zret (v := (nI 0)) (ty := .boolean) hx hb hr (rfl) (fun t ht hW => ⟨(congrArg (fun z => Outcome.returned (some (Value.int z))) (show (nI 0) = (bI (ewB k n b p9 hd)) from bI_f (decide_eq_false (fun q => by omega)))), ht⟩) (fun q h => nomatch h) dX1_isEndedWell_18
  · refine lv_iconst (v := (nI 1)) hx hb dX1_isEndedWell_8 (by decide +kernel) ?_
    exact W.zret (v := (nI 1)) (ty := .boolean) hx hb hr (rfl) (fun t ht hW => ⟨(congrArg (fun z => Outcome.returned (some (Value.int z))) (show (nI 1) = (bI (ewB k n b p9 hd)) from bI_t (decide_eq_true (Or.inl (by omega))))), ht⟩) (fun q h => nomatch h) dX1_isEndedWell_9
