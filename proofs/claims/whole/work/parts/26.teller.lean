set_option maxHeartbeats 4000000 in
set_option maxRecDepth 100000 in
theorem c_X3_dueFilling (l : Launch) (D : va_G) (T : Nat → ClassId) (g : Nat → Nat) (L : Nat) (hL : L ≤ 440) : RO l yX3_dueFilling wsX3_dueFilling ({ frames := 0, cells := 0, slots := 0, locals := 0 } : Room) D T g [.int (nI L)] [] (.int (nI (duN L))) := by
  refine Met.ofW (cc := cX3_dueFilling) (maxL := 2) (ret := (some .int)) (by decide) rfl ?_
  intro p e s m args below meth c s₁ B hml hv
  obtain ⟨rfl, hP, hK, hG⟩ := hv
  have hx := B.exec
  have hb := B.bytes
  have hr := B.returns
  have hts := atoms_spec (ws := wsX3_dueFilling) B.pre
  have hown : s.vm.findClass RX3 = some m.cls := findClass_of_methodNamed B.named
  have hlocks := B.notSynchronized
  have hS : va_S (fun _ => False) s.heap s.heap [] := va_S.rf
  have hl := lv_entry ([.int (nI L)]) (n := 2) (Nat.le_of_ble_eq_true rfl)
  rw [lg_entry_eq]
  generalize (lg_sl ([.int (nI L)]) ++ List.replicate (2 - (lg_sl ([.int (nI L)])).length) Slot.unset).toArray = ls at hl ⊢
  have hl : lv_has ls 2 [(0, .int (nI L))] := hl
  refine lv_iload_n hx hb dX3_dueFilling_0 rfl (lv_at hl 0 rfl) ?_
  refine lv_iconst (v := (nI 4)) hx hb dX3_dueFilling_1 (by decide +kernel) ?_
  refine ln_rem hx hb ⟨by omega, by omega, by omega⟩ dX3_dueFilling_2 ?_
  refine lv_istore_n (lv' := [(1, .int (nI (L % 4))), (0, .int (nI L))]) hx hb dX3_dueFilling_3 rfl hl (by decide) rfl (fun ls hl => ?_)
  refine lv_iload_n hx hb dX3_dueFilling_4 rfl (lv_at hl 0 rfl) ?_
  refine lv_iconst (v := (nI 2)) hx hb dX3_dueFilling_5 (by decide +kernel) ?_
  refine ln_icmp_ne (tgt := 13) hx hb ⟨by omega, by omega⟩ dX3_dueFilling_6 (by decide) (fun c_6 => ?_) (fun c_6 => ?_)
  · refine lv_iload_n hx hb dX3_dueFilling_13 rfl (lv_at hl 0 rfl) ?_
    refine lv_iconst (v := (nI 3)) hx hb dX3_dueFilling_14 (by decide +kernel) ?_
    refine ln_icmp_ne (tgt := 22) hx hb ⟨by omega, by omega⟩ dX3_dueFilling_15 (by decide) (fun c_15 => ?_) (fun c_15 => ?_)
    · refine lv_iconst (v := (nI 0)) hx hb dX3_dueFilling_22 (by decide +kernel) ?_
      exact W.iret (v := (nI 0)) hx hb hr (fun t ht hW => ⟨(congrArg (fun z => Outcome.returned (some (Value.int z))) (show (nI 0) = (nI (duN L)) from congrArg nI (by unfold duN; (repeat' split) <;> omega))), ht⟩) (fun q h => nomatch h) dX3_dueFilling_23
    · refine lv_iconst (v := (nI 1)) hx hb dX3_dueFilling_18 (by decide +kernel) ?_
      refine lv_goto (tgt := 23) hx hb dX3_dueFilling_19 (by decide) ?_
      exact W.iret (v := (nI 1)) hx hb hr (fun t ht hW => ⟨(congrArg (fun z => Outcome.returned (some (Value.int z))) (show (nI 1) = (nI (duN L)) from congrArg nI (by unfold duN; (repeat' split) <;> omega))), ht⟩) (fun q h => nomatch h) dX3_dueFilling_23
  · refine lv_iconst (v := (nI 2)) hx hb dX3_dueFilling_9 (by decide +kernel) ?_
    refine lv_goto (tgt := 23) hx hb dX3_dueFilling_10 (by decide) ?_
    exact W.iret (v := (nI 2)) hx hb hr (fun t ht hW => ⟨(congrArg (fun z => Outcome.returned (some (Value.int z))) (show (nI 2) = (nI (duN L)) from congrArg nI (by unfold duN; (repeat' split) <;> omega))), ht⟩) (fun q h => nomatch h) dX3_dueFilling_23
set_option maxHeartbeats 4000000 in
set_option maxRecDepth 100000 in
theorem c_X3_isWrong (l : Launch) (D : va_G) (T : Nat → ClassId) (g : Nat → Nat) (L : Nat) (m9 : Nat) (k : Nat) (hk : k < 3) (hL : L ≤ 440 ∧ m9 ≤ 440) : RO l yX3_isWrong wsX3_isWrong ({ frames := 1, cells := 0, slots := 0, locals := 21 } : Room) D T g [.int (nI L), .int (nI m9), .ref (g k)] [] (.int (bI (wrgB k L m9))) := by
  refine Met.ofW (cc := cX3_isWrong) (maxL := 4) (ret := (some .boolean)) (by decide) rfl ?_
  intro p e s m args below meth c s₁ B hml hv
  obtain ⟨rfl, hP, hK, hG⟩ := hv
  have hx := B.exec
  have hb := B.bytes
  have hr := B.returns
  have hts := atoms_spec (ws := wsX3_isWrong) B.pre
  have hown : s.vm.findClass RX3 = some m.cls := findClass_of_methodNamed B.named
  have hlocks := B.notSynchronized
  have hS : va_S (fun _ => False) s.heap s.heap [] := va_S.rf
  have hl := lv_entry ([.int (nI L), .int (nI m9), .ref (g k)]) (n := 4) (Nat.le_of_ble_eq_true rfl)
  rw [lg_entry_eq]
  generalize (lg_sl ([.int (nI L), .int (nI m9), .ref (g k)]) ++ List.replicate (4 - (lg_sl ([.int (nI L), .int (nI m9), .ref (g k)])).length) Slot.unset).toArray = ls at hl ⊢
  have hl : lv_has ls 4 [(0, .int (nI L)), (1, .int (nI m9)), (2, .ref (g k))] := hl
  have kh := kH_lt k
  have hd9 := duN_le L
  have hk2 := kH_2 (k := k)
  refine lv_iload_n hx hb dX3_isWrong_0 rfl (lv_at hl 0 rfl) ?_
  refine ro_S (As := [.int (nI L)]) (rest := []) (wc := []) (r := .int (nI (duN L))) ⟨hx, hb, hml, hown, hts⟩ (c_X3_dueFilling l D T g L (by omega)) (va_cwS 1 hts gX3_isWrong_X3_dueFilling rfl rfl rfl (by decide +kernel) ⟨Nat.le_of_ble_eq_true rfl, Nat.le_of_ble_eq_true rfl⟩) hP hK hG hS [] rfl ⟨Nat.zero_le _, Nat.zero_le _⟩ rfl hl.1 (Nat.le_of_ble_eq_true rfl) dX3_isWrong_1 rfl ?_
  refine lv_istore_n (lv' := [(3, .int (nI (duN L))), (0, .int (nI L)), (1, .int (nI m9)), (2, .ref (g k))]) hx hb dX3_isWrong_4 rfl hl (by decide) rfl (fun ls hl => ?_)
  refine lv_iload_n hx hb dX3_isWrong_5 rfl (lv_at hl 1 rfl) ?_
  refine lv_iconst (v := (nI 4)) hx hb dX3_isWrong_6 (by decide +kernel) ?_
  refine ln_rem hx hb ⟨by omega, by omega, by omega⟩ dX3_isWrong_7 ?_
  refine lv_iconst (v := (nI 1)) hx hb dX3_isWrong_8 (by decide +kernel) ?_
  refine ln_icmp_eq (tgt := 44) hx hb ⟨by omega, by omega⟩ dX3_isWrong_9 (by decide) (fun c_9 => ?_) (fun c_9 => ?_)
  · refine lv_iconst (v := (nI 1)) hx hb dX3_isWrong_44 (by decide +kernel) ?_
    refine lv_goto (tgt := 49) hx hb dX3_isWrong_45 (by decide) ?_
    exact W.zret (v := (nI 1)) (ty := .boolean) hx hb hr (rfl) (fun t ht hW => ⟨(congrArg (fun z => Outcome.returned (some (Value.int z))) (show (nI 1) = (bI (wrgB k L m9)) from bI_t (decide_eq_true (by omega)))), ht⟩) (fun q h => nomatch h) dX3_isWrong_49
  · refine lv_iload_n hx hb dX3_isWrong_12 rfl (lv_at hl 2 rfl) ?_
    refine ln_if_eq (tgt := 22) hx hb (by omega) dX3_isWrong_13 (by decide) (fun c_13 => ?_) (fun c_13 => ?_)
    · refine lv_iload_n hx hb dX3_isWrong_22 rfl (lv_at hl 2 rfl) ?_
      refine lv_iconst (v := (nI 1)) hx hb dX3_isWrong_23 (by decide +kernel) ?_
      refine ln_icmp_ne (tgt := 32) hx hb ⟨by omega, by omega⟩ dX3_isWrong_24 (by decide) (fun c_24 => ?_) (fun c_24 => ?_)
      · refine lv_aload_n hx hb dX3_isWrong_32 rfl (lv_at hl 3 rfl) ?_
        refine va_getEN hx hb hG.1 (show _ < KN.length from hk) hS hown (q := FK[2]) (List.mem_of_getElem? (i := 2) rfl) (va_Nw.use rfl (hG.2.2.2.2.2.2.2.1 _ (List.mem_of_getElem? (i := 6) rfl))) (fun _ h9 => h9) dX3_isWrong_33 ?_
        rw [show (FK[2]).2.2.2.getD k 0 = nI (kH k) from k_f2 _ (hk)]
        refine ln_if_ne (tgt := 48) hx hb (by omega) dX3_isWrong_36 (by decide) (fun c_36 => ?_) (fun c_36 => ?_)
        · refine lv_iconst (v := (nI 0)) hx hb dX3_isWrong_48 (by decide +kernel) ?_
          exact W.zret (v := (nI 0)) (ty := .boolean) hx hb hr (rfl) (fun t ht hW => ⟨(congrArg (fun z => Outcome.returned (some (Value.int z))) (show (nI 0) = (bI (wrgB k L m9)) from bI_f (decide_eq_false (by omega)))), ht⟩) (fun q h => nomatch h) dX3_isWrong_49
        · refine lv_iload_n hx hb dX3_isWrong_39 rfl (lv_at hl 2 rfl) ?_
          refine lv_iload_n hx hb dX3_isWrong_40 rfl (lv_at hl 0 rfl) ?_
          refine ln_icmp_le (tgt := 48) hx hb ⟨by omega, by omega⟩ dX3_isWrong_41 (by decide) (fun c_41 => ?_) (fun c_41 => ?_)
          · refine lv_iconst (v := (nI 0)) hx hb dX3_isWrong_48 (by decide +kernel) ?_
            exact W.zret (v := (nI 0)) (ty := .boolean) hx hb hr (rfl) (fun t ht hW => ⟨(congrArg (fun z => Outcome.returned (some (Value.int z))) (show (nI 0) = (bI (wrgB k L m9)) from bI_f (decide_eq_false (by omega)))), ht⟩) (fun q h => nomatch h) dX3_isWrong_49
          · refine lv_iconst (v := (nI 1)) hx hb dX3_isWrong_44 (by decide +kernel) ?_
            refine lv_goto (tgt := 49) hx hb dX3_isWrong_45 (by decide) ?_
            exact W.zret (v := (nI 1)) (ty := .boolean) hx hb hr (rfl) (fun t ht hW => ⟨(congrArg (fun z => Outcome.returned (some (Value.int z))) (show (nI 1) = (bI (wrgB k L m9)) from bI_t (decide_eq_true (by omega)))), ht⟩) (fun q h => nomatch h) dX3_isWrong_49
      · refine lv_iload_n hx hb dX3_isWrong_27 rfl (lv_at hl 0 rfl) ?_
        refine lv_iconst (v := (nI 2)) hx hb dX3_isWrong_28 (by decide +kernel) ?_
        refine ln_icmp_eq (tgt := 44) hx hb ⟨by omega, by omega⟩ dX3_isWrong_29 (by decide) (fun c_29 => ?_) (fun c_29 => ?_)
        · refine lv_iconst (v := (nI 1)) hx hb dX3_isWrong_44 (by decide +kernel) ?_
          refine lv_goto (tgt := 49) hx hb dX3_isWrong_45 (by decide) ?_
          exact W.zret (v := (nI 1)) (ty := .boolean) hx hb hr (rfl) (fun t ht hW => ⟨(congrArg (fun z => Outcome.returned (some (Value.int z))) (show (nI 1) = (bI (wrgB k L m9)) from bI_t (decide_eq_true (by omega)))), ht⟩) (fun q h => nomatch h) dX3_isWrong_49
        · refine lv_aload_n hx hb dX3_isWrong_32 rfl (lv_at hl 3 rfl) ?_
          refine va_getEN hx hb hG.1 (show _ < KN.length from hk) hS hown (q := FK[2]) (List.mem_of_getElem? (i := 2) rfl) (va_Nw.use rfl (hG.2.2.2.2.2.2.2.1 _ (List.mem_of_getElem? (i := 6) rfl))) (fun _ h9 => h9) dX3_isWrong_33 ?_
          rw [show (FK[2]).2.2.2.getD k 0 = nI (kH k) from k_f2 _ (hk)]
          refine ln_if_ne (tgt := 48) hx hb (by omega) dX3_isWrong_36 (by decide) (fun c_36 => ?_) (fun c_36 => ?_)
          · refine lv_iconst (v := (nI 0)) hx hb dX3_isWrong_48 (by decide +kernel) ?_
            exact W.zret (v := (nI 0)) (ty := .boolean) hx hb hr (rfl) (fun t ht hW => ⟨(congrArg (fun z => Outcome.returned (some (Value.int z))) (show (nI 0) = (bI (wrgB k L m9)) from bI_f (decide_eq_false (by omega)))), ht⟩) (fun q h => nomatch h) dX3_isWrong_49
          · refine lv_iload_n hx hb dX3_isWrong_39 rfl (lv_at hl 2 rfl) ?_
            refine lv_iload_n hx hb dX3_isWrong_40 rfl (lv_at hl 0 rfl) ?_
            refine ln_icmp_le (tgt := 48) hx hb ⟨by omega, by omega⟩ dX3_isWrong_41 (by decide) (fun c_41 => ?_) (fun c_41 => ?_)
            · refine lv_iconst (v := (nI 0)) hx hb dX3_isWrong_48 (by decide +kernel) ?_
              exact W.zret (v := (nI 0)) (ty := .boolean) hx hb hr (rfl) (fun t ht hW => ⟨(congrArg (fun z => Outcome.returned (some (Value.int z))) (show (nI 0) = (bI (wrgB k L m9)) from bI_f (decide_eq_false (by omega)))), ht⟩) (fun q h => nomatch h) dX3_isWrong_49
            · refine lv_iconst (v := (nI 1)) hx hb dX3_isWrong_44 (by decide +kernel) ?_
              refine lv_goto (tgt := 49) hx hb dX3_isWrong_45 (by decide) ?_
              exact W.zret (v := (nI 1)) (ty := .boolean) hx hb hr (rfl) (fun t ht hW => ⟨(congrArg (fun z => Outcome.returned (some (Value.int z))) (show (nI 1) = (bI (wrgB k L m9)) from bI_t (decide_eq_true (by omega)))), ht⟩) (fun q h => nomatch h) dX3_isWrong_49
    · refine lv_iload_n hx hb dX3_isWrong_16 rfl (lv_at hl 1 rfl) ?_
      refine lv_iconst (v := (nI 4)) hx hb dX3_isWrong_17 (by decide +kernel) ?_
      refine ln_rem hx hb ⟨by omega, by omega, by omega⟩ dX3_isWrong_18 ?_
      refine ln_if_eq (tgt := 44) hx hb (by omega) dX3_isWrong_19 (by decide) (fun c_19 => ?_) (fun c_19 => ?_)
      · refine lv_iconst (v := (nI 1)) hx hb dX3_isWrong_44 (by decide +kernel) ?_
        refine lv_goto (tgt := 49) hx hb dX3_isWrong_45 (by decide) ?_
        exact W.zret (v := (nI 1)) (ty := .boolean) hx hb hr (rfl) (fun t ht hW => ⟨(congrArg (fun z => Outcome.returned (some (Value.int z))) (show (nI 1) = (bI (wrgB k L m9)) from bI_t (decide_eq_true (by omega)))), ht⟩) (fun q h => nomatch h) dX3_isWrong_49
      · refine lv_iload_n hx hb dX3_isWrong_22 rfl (lv_at hl 2 rfl) ?_
        refine lv_iconst (v := (nI 1)) hx hb dX3_isWrong_23 (by decide +kernel) ?_
        refine ln_icmp_ne (tgt := 32) hx hb ⟨by omega, by omega⟩ dX3_isWrong_24 (by decide) (fun c_24 => ?_) (fun c_24 => ?_)
        · refine lv_aload_n hx hb dX3_isWrong_32 rfl (lv_at hl 3 rfl) ?_
          refine va_getEN hx hb hG.1 (show _ < KN.length from hk) hS hown (q := FK[2]) (List.mem_of_getElem? (i := 2) rfl) (va_Nw.use rfl (hG.2.2.2.2.2.2.2.1 _ (List.mem_of_getElem? (i := 6) rfl))) (fun _ h9 => h9) dX3_isWrong_33 ?_
          rw [show (FK[2]).2.2.2.getD k 0 = nI (kH k) from k_f2 _ (hk)]
          refine ln_if_ne (tgt := 48) hx hb (by omega) dX3_isWrong_36 (by decide) (fun c_36 => ?_) (fun c_36 => ?_)
          · refine lv_iconst (v := (nI 0)) hx hb dX3_isWrong_48 (by decide +kernel) ?_
            exact W.zret (v := (nI 0)) (ty := .boolean) hx hb hr (rfl) (fun t ht hW => ⟨(congrArg (fun z => Outcome.returned (some (Value.int z))) (show (nI 0) = (bI (wrgB k L m9)) from bI_f (decide_eq_false (by omega)))), ht⟩) (fun q h => nomatch h) dX3_isWrong_49
          · refine lv_iload_n hx hb dX3_isWrong_39 rfl (lv_at hl 2 rfl) ?_
            refine lv_iload_n hx hb dX3_isWrong_40 rfl (lv_at hl 0 rfl) ?_
            refine ln_icmp_le (tgt := 48) hx hb ⟨by omega, by omega⟩ dX3_isWrong_41 (by decide) (fun c_41 => ?_) (fun c_41 => ?_)
            · refine lv_iconst (v := (nI 0)) hx hb dX3_isWrong_48 (by decide +kernel) ?_
              exact W.zret (v := (nI 0)) (ty := .boolean) hx hb hr (rfl) (fun t ht hW => ⟨(congrArg (fun z => Outcome.returned (some (Value.int z))) (show (nI 0) = (bI (wrgB k L m9)) from bI_f (decide_eq_false (by omega)))), ht⟩) (fun q h => nomatch h) dX3_isWrong_49
            · refine lv_iconst (v := (nI 1)) hx hb dX3_isWrong_44 (by decide +kernel) ?_
              refine lv_goto (tgt := 49) hx hb dX3_isWrong_45 (by decide) ?_
              exact W.zret (v := (nI 1)) (ty := .boolean) hx hb hr (rfl) (fun t ht hW => ⟨(congrArg (fun z => Outcome.returned (some (Value.int z))) (show (nI 1) = (bI (wrgB k L m9)) from bI_t (decide_eq_true (by omega)))), ht⟩) (fun q h => nomatch h) dX3_isWrong_49
        · refine lv_iload_n hx hb dX3_isWrong_27 rfl (lv_at hl 0 rfl) ?_
          refine lv_iconst (v := (nI 2)) hx hb dX3_isWrong_28 (by decide +kernel) ?_
          refine ln_icmp_eq (tgt := 44) hx hb ⟨by omega, by omega⟩ dX3_isWrong_29 (by decide) (fun c_29 => ?_) (fun c_29 => ?_)
          · refine lv_iconst (v := (nI 1)) hx hb dX3_isWrong_44 (by decide +kernel) ?_
            refine lv_goto (tgt := 49) hx hb dX3_isWrong_45 (by decide) ?_
            exact W.zret (v := (nI 1)) (ty := .boolean) hx hb hr (rfl) (fun t ht hW => ⟨(congrArg (fun z => Outcome.returned (some (Value.int z))) (show (nI 1) = (bI (wrgB k L m9)) from bI_t (decide_eq_true (by omega)))), ht⟩) (fun q h => nomatch h) dX3_isWrong_49
          · refine lv_aload_n hx hb dX3_isWrong_32 rfl (lv_at hl 3 rfl) ?_
            refine va_getEN hx hb hG.1 (show _ < KN.length from hk) hS hown (q := FK[2]) (List.mem_of_getElem? (i := 2) rfl) (va_Nw.use rfl (hG.2.2.2.2.2.2.2.1 _ (List.mem_of_getElem? (i := 6) rfl))) (fun _ h9 => h9) dX3_isWrong_33 ?_
            rw [show (FK[2]).2.2.2.getD k 0 = nI (kH k) from k_f2 _ (hk)]
            refine ln_if_ne (tgt := 48) hx hb (by omega) dX3_isWrong_36 (by decide) (fun c_36 => ?_) (fun c_36 => ?_)
            · refine lv_iconst (v := (nI 0)) hx hb dX3_isWrong_48 (by decide +kernel) ?_
              exact W.zret (v := (nI 0)) (ty := .boolean) hx hb hr (rfl) (fun t ht hW => ⟨(congrArg (fun z => Outcome.returned (some (Value.int z))) (show (nI 0) = (bI (wrgB k L m9)) from bI_f (decide_eq_false (by omega)))), ht⟩) (fun q h => nomatch h) dX3_isWrong_49
            · refine lv_iload_n hx hb dX3_isWrong_39 rfl (lv_at hl 2 rfl) ?_
              refine lv_iload_n hx hb dX3_isWrong_40 rfl (lv_at hl 0 rfl) ?_
              refine ln_icmp_le (tgt := 48) hx hb ⟨by omega, by omega⟩ dX3_isWrong_41 (by decide) (fun c_41 => ?_) (fun c_41 => ?_)
              · refine lv_iconst (v := (nI 0)) hx hb dX3_isWrong_48 (by decide +kernel) ?_
                exact W.zret (v := (nI 0)) (ty := .boolean) hx hb hr (rfl) (fun t ht hW => ⟨(congrArg (fun z => Outcome.returned (some (Value.int z))) (show (nI 0) = (bI (wrgB k L m9)) from bI_f (decide_eq_false (by omega)))), ht⟩) (fun q h => nomatch h) dX3_isWrong_49
              · refine lv_iconst (v := (nI 1)) hx hb dX3_isWrong_44 (by decide +kernel) ?_
                refine lv_goto (tgt := 49) hx hb dX3_isWrong_45 (by decide) ?_
                exact W.zret (v := (nI 1)) (ty := .boolean) hx hb hr (rfl) (fun t ht hW => ⟨(congrArg (fun z => Outcome.returned (some (Value.int z))) (show (nI 1) = (bI (wrgB k L m9)) from bI_t (decide_eq_true (by omega)))), ht⟩) (fun q h => nomatch h) dX3_isWrong_49
set_option maxHeartbeats 4000000 in
set_option maxRecDepth 100000 in
/-- whether nothing is told for what stands behind -/
theorem c_X3_isUntoldBehind (l : Launch) (D : va_G) (T : Nat → ClassId) (g : Nat → Nat) (h0 : Nat) (q0 : Nat) (f : Nat → Int32) (n : Nat) (k : Nat) (f9 : Nat) (b : Nat → Nat) (hb9 : RB f n b) (hk : k < 3) (hf : f9 ≤ n) : RO l yX3_isUntoldBehind wsX3_isUntoldBehind ({ frames := 2, cells := 0, slots := 0, locals := 42 } : Room) D T g [.ref h0, .ref (g k), .int (nI f9)] [(h0, .inr (0, [.ref q0, .int (nI n)])), (q0, .inl (T 0, 440, .inl f))] (.int (bI (utB k b f9 (n - f9 - 1)).2)) := by
  refine Met.ofW (cc := cX3_isUntoldBehind) (maxL := 5) (ret := (some .boolean)) (by decide) rfl ?_
  intro p e s m args below meth c s₁ B hml hv
  obtain ⟨rfl, hP, hK, hG⟩ := hv
  have hx := B.exec
  have hb := B.bytes
  have hr := B.returns
  have hts := atoms_spec (ws := wsX3_isUntoldBehind) B.pre
  have hown : s.vm.findClass RX3 = some m.cls := findClass_of_methodNamed B.named
  have hlocks := B.notSynchronized
  have hi_X2 : ∀ w ∈ wsX20, w ∈ wsX3_isUntoldBehind := by decide +kernel
  have hS : va_S (fun _ => False) s.heap s.heap [] := va_S.rf
  have hl := lv_entry ([.ref h0, .ref (g k), .int (nI f9)]) (n := 5) (Nat.le_of_ble_eq_true rfl)
  rw [lg_entry_eq]
  generalize (lg_sl ([.ref h0, .ref (g k), .int (nI f9)]) ++ List.replicate (5 - (lg_sl ([.ref h0, .ref (g k), .int (nI f9)])).length) Slot.unset).toArray = ls at hl ⊢
  have hl : lv_has ls 5 [(0, .ref h0), (1, .ref (g k)), (2, .int (nI f9))] := hl
  have hn := hb9.1
  have kh := kH_lt k
  refine lv_iconst (v := (nI 0)) hx hb dX3_isUntoldBehind_0 (by decide +kernel) ?_
  refine lv_istore_n (lv' := [(3, .int (nI 0)), (0, .ref h0), (1, .ref (g k)), (2, .int (nI f9))]) hx hb dX3_isUntoldBehind_1 rfl hl (by decide) rfl (fun ls hl => ?_)
  refine lv_iload_n hx hb dX3_isUntoldBehind_2 rfl (lv_at hl 3 rfl) ?_
  refine lv_iconst (v := (nI 1)) hx hb dX3_isUntoldBehind_3 (by decide +kernel) ?_
  refine ln_add hx hb dX3_isUntoldBehind_4 ?_
  refine lv_istore (lv' := [(4, .int (nI (f9 + 1))), (3, .int (nI 0)), (0, .ref h0), (1, .ref (g k)), (2, .int (nI f9))]) hx hb dX3_isUntoldBehind_5 hl (by decide) rfl (fun ls hl => ?_)
  have K1 : ∀ (N9 : Nat) (i : Nat), (f9 + 1 + i ≤ n ∨ i = 0) → ((utB k b f9 i).2 = false) → n - i < N9 → ∀ ls : Array Slot, lv_has ls 5 [(0, .ref h0), (1, .ref (g k)), (3, .int (bI (utB k b f9 i).1)), (4, .int (nI (f9 + 1 + i)))] → W p l e (headSpec wsX3_isUntoldBehind ({ frames := 2, cells := 0, slots := 0, locals := 42 } : Room)).room s m ([.ref h0, .ref (g k), .int (nI f9)] : List Value).toArray below meth c s.heap [] 0 0 (MQ below (k2_QcV (.int (bI (utB k b f9 (n - f9 - 1)).2))) ([.ref h0, .ref (g k), .int (nI f9)] : List Value).toArray s 0 0 (fun _ => False)) (F0 m 7 ls []) := by
    intro N9
    induction N9 with
    | zero => intro i hi hq h9; exact absurd h9 (Nat.not_lt_zero _)
    | succ N9 ih =>
      intro i hi hq h9 ls hl
      refine lv_iload hx hb dX3_isUntoldBehind_7 (lv_at hl 3 rfl) ?_
      refine lv_aload_n hx hb dX3_isUntoldBehind_9 rfl (lv_at hl 0 rfl) ?_
      refine va_getN (D := D) (ci := 0) (v := .int (nI n)) (C := RX2) (T := TX2) (N := 2) hx hb hts hi_X2 hown hK hP 0 rfl rfl 1 (by decide) (va_Nw.use rfl (hG.2.2.2.2.2.2.2.1 _ (List.mem_of_getElem? (i := 3) rfl))) (fun _ h9 => h9) rfl dX3_isUntoldBehind_10 ?_
      refine ln_icmp_ge (tgt := 63) hx hb ⟨by omega, by omega⟩ dX3_isUntoldBehind_13 (by decide) (fun c_13 => ?_) (fun c_13 => ?_)
      · refine lv_iconst (v := (nI 0)) hx hb dX3_isUntoldBehind_63 (by decide +kernel) ?_
        exact W.zret (v := (nI 0)) (ty := .boolean) hx hb hr (rfl) (fun t ht hW => ⟨(congrArg (fun z => Outcome.returned (some (Value.int z))) (show (nI 0) = (bI (utB k b f9 (n - f9 - 1)).2) from bI_f (by rw [show n - f9 - 1 = i from by omega]; exact hq))), ht⟩) (fun q h => nomatch h) dX3_isUntoldBehind_64
      · refine lv_aload_n hx hb dX3_isUntoldBehind_16 rfl (lv_at hl 0 rfl) ?_
        refine lv_iload hx hb dX3_isUntoldBehind_17 (lv_at hl 3 rfl) ?_
        refine ro_V (As := [.int (nI (f9 + 1 + i))]) (rest := []) (wc := [(h0, .inr (0, [.ref q0, .int (nI n)])), (q0, .inl (T 0, 440, .inl f))]) (r := .int (nI (b (f9 + 1 + i)))) ⟨hx, hb, hml, hown, hts⟩ (c_X2_atB l D T g h0 q0 f n (f9 + 1 + i) b hb9 (by omega)) (cwV 1 hts gX3_isUntoldBehind_X2_at rfl rfl rfl (by decide +kernel) ⟨Nat.le_of_ble_eq_true rfl, Nat.le_of_ble_eq_true rfl⟩) (va_recv hK hP (ci := 0) (q0 := 0) rfl rfl) hP hK hG hS [0, 1] rfl ⟨Nat.zero_le _, Nat.zero_le _⟩ rfl hl.1 (Nat.le_of_ble_eq_true rfl) dX3_isUntoldBehind_19 rfl ?_
        have hx1 := (hb9.2 (f9 + 1 + i) (by omega)).2
        refine lv_bipush (v := (nI 61)) hx hb dX3_isUntoldBehind_22 (by decide +kernel) ?_
        refine ln_icmp_ne (tgt := 33) hx hb ⟨by omega, by omega⟩ dX3_isUntoldBehind_24 (by decide) (fun c_24 => ?_) (fun c_24 => ?_)
        · refine lv_aload_n hx hb dX3_isUntoldBehind_33 rfl (lv_at hl 1 rfl) ?_
          refine va_getEN hx hb hG.1 (show _ < KN.length from hk) hS hown (q := FK[2]) (List.mem_of_getElem? (i := 2) rfl) (va_Nw.use rfl (hG.2.2.2.2.2.2.2.1 _ (List.mem_of_getElem? (i := 6) rfl))) (fun _ h9 => h9) dX3_isUntoldBehind_34 ?_
          rw [show (FK[2]).2.2.2.getD k 0 = nI (kH k) from k_f2 _ (hk)]
          refine ln_if_eq (tgt := 53) hx hb (by omega) dX3_isUntoldBehind_37 (by decide) (fun c_37 => ?_) (fun c_37 => ?_)
          · refine lv_iconst (v := (nI 1)) hx hb dX3_isUntoldBehind_53 (by decide +kernel) ?_
            exact W.zret (v := (nI 1)) (ty := .boolean) hx hb hr (rfl) (fun t ht hW => ⟨(congrArg (fun z => Outcome.returned (some (Value.int z))) (show (nI 1) = (bI (utB k b f9 (n - f9 - 1)).2) from bI_t (utB_mono k b f9 (i := i + 1) (by omega) (by simp only [utB]; rw [if_neg c_24]; simp [kH_2.mp c_37])))), ht⟩) (fun q h => nomatch h) dX3_isUntoldBehind_54
          · refine lv_aload_n hx hb dX3_isUntoldBehind_40 rfl (lv_at hl 1 rfl) ?_
            refine lv_aload_n hx hb dX3_isUntoldBehind_41 rfl (lv_at hl 0 rfl) ?_
            refine lv_iload hx hb dX3_isUntoldBehind_42 (lv_at hl 3 rfl) ?_
            refine ro_V (As := [.int (nI (f9 + 1 + i))]) (rest := [.ref (g k)]) (wc := [(h0, .inr (0, [.ref q0, .int (nI n)])), (q0, .inl (T 0, 440, .inl f))]) (r := .int (nI (b (f9 + 1 + i)))) ⟨hx, hb, hml, hown, hts⟩ (c_X2_atB l D T g h0 q0 f n (f9 + 1 + i) b hb9 (by omega)) (cwV 1 hts gX3_isUntoldBehind_X2_at rfl rfl rfl (by decide +kernel) ⟨Nat.le_of_ble_eq_true rfl, Nat.le_of_ble_eq_true rfl⟩) (va_recv hK hP (ci := 0) (q0 := 0) rfl rfl) hP hK hG hS [0, 1] rfl ⟨Nat.zero_le _, Nat.zero_le _⟩ rfl hl.1 (Nat.le_of_ble_eq_true rfl) dX3_isUntoldBehind_44 rfl ?_
            refine ro_V (As := [.int (nI (b (f9 + 1 + i)))]) (rest := []) (wc := []) (r := .int (bI (isL k (b (f9 + 1 + i))))) ⟨hx, hb, hml, hown, hts⟩ (c_X0_isLetter l D T g k (b (f9 + 1 + i)) hk ((hb9.2 (f9 + 1 + i) (by omega)).2)) (cwV 1 hts gX3_isUntoldBehind_X0_isLetter rfl rfl rfl (by decide +kernel) ⟨Nat.le_of_ble_eq_true rfl, Nat.le_of_ble_eq_true rfl⟩) (va_recvE hG.1 (show _ < KN.length from hk) hS) hP hK hG hS [] rfl ⟨Nat.zero_le _, Nat.zero_le _⟩ rfl hl.1 (Nat.le_of_ble_eq_true rfl) dX3_isUntoldBehind_47 rfl ?_
            refine lv_if_eq (tgt := 55) hx hb dX3_isUntoldBehind_50 (by decide) (fun c_50 => ?_) (fun c_50 => ?_)
            · have hz6 := bI_z.mp c_50
              have hk6 : k = 2 := Decidable.not_not.mp (fun q => c_37 (kH_2.mpr q))
              refine lv_iconst (v := (nI 1)) hx hb dX3_isUntoldBehind_55 (by decide +kernel) ?_
              rw [show nI 1 = bI (utB k b f9 (i + 1)).1 from by simp only [utB]; rw [if_neg c_24]; rfl]
              refine lv_istore_n (lv' := [(3, .int (bI (utB k b f9 (i + 1)).1)), (0, .ref h0), (1, .ref (g k)), (4, .int (nI (f9 + 1 + i)))]) hx hb dX3_isUntoldBehind_56 rfl hl (by decide) rfl (fun ls hl => ?_)
              refine lv_iinc (v := (nI ((f9 + 1 + i) + 1))) (lv' := [(4, .int (nI ((f9 + 1 + i) + 1))), (3, .int (bI (utB k b f9 (i + 1)).1)), (0, .ref h0), (1, .ref (g k))]) hx hb dX3_isUntoldBehind_57 hl (k := 3) rfl (ni_inc1 _) (by decide) rfl (fun ls hl => ?_)
              refine lv_goto (tgt := 7) hx hb dX3_isUntoldBehind_60 (by decide) ?_
              exact ih (i + 1) (by omega) (by simp only [utB]; split <;> simp_all) (by omega) ls (lv_sub hl [2, 3, 1, 0] rfl)
            · refine lv_iconst (v := (nI 1)) hx hb dX3_isUntoldBehind_53 (by decide +kernel) ?_
              exact W.zret (v := (nI 1)) (ty := .boolean) hx hb hr (rfl) (fun t ht hW => ⟨(congrArg (fun z => Outcome.returned (some (Value.int z))) (show (nI 1) = (bI (utB k b f9 (n - f9 - 1)).2) from bI_t (utB_mono k b f9 (i := i + 1) (by omega) (by simp only [utB]; rw [if_neg c_24]; simp [bI_nz.mp c_50])))), ht⟩) (fun q h => nomatch h) dX3_isUntoldBehind_54
        · refine lv_iload_n hx hb dX3_isUntoldBehind_27 rfl (lv_at hl 2 rfl) ?_
          refine lv_if_eq (tgt := 57) hx hb dX3_isUntoldBehind_28 (by decide) (fun c_28 => ?_) (fun c_28 => ?_)
          · have e5 : (utB k b f9 i).1 = (utB k b f9 (i + 1)).1 := by simp only [utB]; rw [if_pos c_24]
            have hz5 := bI_z.mp c_28
            rw [e5] at hl
            refine lv_iinc (v := (nI ((f9 + 1 + i) + 1))) (lv' := [(4, .int (nI ((f9 + 1 + i) + 1))), (0, .ref h0), (1, .ref (g k)), (3, .int (bI (utB k b f9 (i + 1)).1))]) hx hb dX3_isUntoldBehind_57 hl (k := 3) rfl (ni_inc1 _) (by decide) rfl (fun ls hl => ?_)
            refine lv_goto (tgt := 7) hx hb dX3_isUntoldBehind_60 (by decide) ?_
            exact ih (i + 1) (by omega) (by simp only [utB]; split <;> simp_all) (by omega) ls (lv_sub hl [1, 2, 3, 0] rfl)
          · refine lv_iconst (v := (nI 1)) hx hb dX3_isUntoldBehind_31 (by decide +kernel) ?_
            exact W.zret (v := (nI 1)) (ty := .boolean) hx hb hr (rfl) (fun t ht hW => ⟨(congrArg (fun z => Outcome.returned (some (Value.int z))) (show (nI 1) = (bI (utB k b f9 (n - f9 - 1)).2) from bI_t (utB_mono k b f9 (i := i + 1) (by omega) (by simp only [utB]; rw [if_pos c_24]; simp [bI_nz.mp c_28])))), ht⟩) (fun q h => nomatch h) dX3_isUntoldBehind_32
  exact K1 _ 0 (Or.inr rfl) (rfl) (Nat.lt_succ_self _) ls (lv_sub hl [2, 3, 1, 0] rfl)
set_option maxHeartbeats 4000000 in
set_option maxRecDepth 100000 in
/-- the last letter's worth -/
theorem c_X3_lastWorth (l : Launch) (D : va_G) (T : Nat → ClassId) (g : Nat → Nat) (h0 : Nat) (q0 : Nat) (f : Nat → Int32) (n : Nat) (k : Nat) (f9 : Nat) (b : Nat → Nat) (hb9 : RB f n b) (hk : k < 3) (hf : f9 ≤ n) : RO l yX3_lastWorth wsX3_lastWorth ({ frames := 1, cells := 0, slots := 0, locals := 21 } : Room) D T g [.ref h0, .ref (g k), .int (nI f9)] [(h0, .inr (0, [.ref q0, .int (nI n)])), (q0, .inl (T 0, 440, .inl f))] (.int (nI (lsW k b f9))) := by
  refine Met.ofW (cc := cX3_lastWorth) (maxL := 5) (ret := (some .int)) (by decide) rfl ?_
  intro p e s m args below meth c s₁ B hml hv
  obtain ⟨rfl, hP, hK, hG⟩ := hv
  have hx := B.exec
  have hb := B.bytes
  have hr := B.returns
  have hts := atoms_spec (ws := wsX3_lastWorth) B.pre
  have hown : s.vm.findClass RX3 = some m.cls := findClass_of_methodNamed B.named
  have hlocks := B.notSynchronized
  have hS : va_S (fun _ => False) s.heap s.heap [] := va_S.rf
  have hl := lv_entry ([.ref h0, .ref (g k), .int (nI f9)]) (n := 5) (Nat.le_of_ble_eq_true rfl)
  rw [lg_entry_eq]
  generalize (lg_sl ([.ref h0, .ref (g k), .int (nI f9)]) ++ List.replicate (5 - (lg_sl ([.ref h0, .ref (g k), .int (nI f9)])).length) Slot.unset).toArray = ls at hl ⊢
  have hl : lv_has ls 5 [(0, .ref h0), (1, .ref (g k)), (2, .int (nI f9))] := hl
  have hn := hb9.1
  refine lv_iload_n hx hb dX3_lastWorth_0 rfl (lv_at hl 2 rfl) ?_
  refine lv_iconst (v := (nI 1)) hx hb dX3_lastWorth_1 (by decide +kernel) ?_
  refine lv_isub hx hb dX3_lastWorth_2 ?_
  rw [show (nI f9) - (nI 1) = (pd f9) from rfl]
  refine lv_istore_n (lv' := [(3, .int (pd f9)), (0, .ref h0), (1, .ref (g k)), (2, .int (nI f9))]) hx hb dX3_lastWorth_3 rfl hl (by decide) rfl (fun ls hl => ?_)
  have K1 : ∀ (N9 : Nat) (j : Nat), (j ≤ f9) → (lsW k b f9 = lsW k b j) → j < N9 → ∀ ls : Array Slot, lv_has ls 5 [(0, .ref h0), (1, .ref (g k)), (3, .int (pd j))] → W p l e (headSpec wsX3_lastWorth ({ frames := 1, cells := 0, slots := 0, locals := 21 } : Room)).room s m ([.ref h0, .ref (g k), .int (nI f9)] : List Value).toArray below meth c s.heap [] 0 0 (MQ below (k2_QcV (.int (nI (lsW k b f9)))) ([.ref h0, .ref (g k), .int (nI f9)] : List Value).toArray s 0 0 (fun _ => False)) (F0 m 4 ls []) := by
    intro N9
    induction N9 with
    | zero => intro j hi hq h9; exact absurd h9 (Nat.not_lt_zero _)
    | succ N9 ih =>
      intro j hi hq h9 ls hl
      refine lv_iload_n hx hb dX3_lastWorth_4 rfl (lv_at hl 2 rfl) ?_
      refine lv_if_lt (tgt := 33) hx hb dX3_lastWorth_5 (by decide) (fun c_5 => ?_) (fun c_5 => ?_)
      · have e9 := pd_neg (by omega) c_5
        subst e9
        refine lv_iconst (v := (nI 0)) hx hb dX3_lastWorth_33 (by decide +kernel) ?_
        exact W.iret (v := (nI 0)) hx hb hr (fun t ht hW => ⟨(congrArg (fun z => Outcome.returned (some (Value.int z))) (show (nI 0) = (nI (lsW k b f9)) from congrArg nI hq.symm)), ht⟩) (fun q h => nomatch h) dX3_lastWorth_34
      · obtain ⟨j1, rfl⟩ : ∃ j1, j = j1 + 1 := ⟨j - 1, by have := pd_pos c_5; omega⟩
        rw [pd_s] at hl
        refine lv_aload_n hx hb dX3_lastWorth_8 rfl (lv_at hl 1 rfl) ?_
        refine lv_aload_n hx hb dX3_lastWorth_9 rfl (lv_at hl 0 rfl) ?_
        refine lv_iload_n hx hb dX3_lastWorth_10 rfl (lv_at hl 2 rfl) ?_
        refine ro_V (As := [.int (nI j1)]) (rest := [.ref (g k)]) (wc := [(h0, .inr (0, [.ref q0, .int (nI n)])), (q0, .inl (T 0, 440, .inl f))]) (r := .int (nI (b j1))) ⟨hx, hb, hml, hown, hts⟩ (c_X2_atB l D T g h0 q0 f n j1 b hb9 (by omega)) (cwV 1 hts gX3_lastWorth_X2_at rfl rfl rfl (by decide +kernel) ⟨Nat.le_of_ble_eq_true rfl, Nat.le_of_ble_eq_true rfl⟩) (va_recv hK hP (ci := 0) (q0 := 0) rfl rfl) hP hK hG hS [0, 1] rfl ⟨Nat.zero_le _, Nat.zero_le _⟩ rfl hl.1 (Nat.le_of_ble_eq_true rfl) dX3_lastWorth_11 rfl ?_
        refine ro_V (As := [.int (nI (b j1))]) (rest := []) (wc := []) (r := .int (wV k (b j1))) ⟨hx, hb, hml, hown, hts⟩ (c_X0_worthOf l D T g k (b j1) hk ((hb9.2 j1 (by omega)).2)) (cwV 1 hts gX3_lastWorth_X0_worthOf rfl rfl rfl (by decide +kernel) ⟨Nat.le_of_ble_eq_true rfl, Nat.le_of_ble_eq_true rfl⟩) (va_recvE hG.1 (show _ < KN.length from hk) hS) hP hK hG hS [] rfl ⟨Nat.zero_le _, Nat.zero_le _⟩ rfl hl.1 (Nat.le_of_ble_eq_true rfl) dX3_lastWorth_14 rfl ?_
        refine lv_istore (lv' := [(4, .int (wV k (b j1))), (0, .ref h0), (1, .ref (g k)), (3, .int (nI j1))]) hx hb dX3_lastWorth_17 hl (by decide) rfl (fun ls hl => ?_)
        refine lv_iload hx hb dX3_lastWorth_19 (lv_at hl 0 rfl) ?_
        refine lv_if_lt (tgt := 27) hx hb dX3_lastWorth_21 (by decide) (fun c_21 => ?_) (fun c_21 => ?_)
        · refine lv_iinc (v := (pd j1)) (lv' := [(3, .int (pd j1)), (4, .int (wV k (b j1))), (0, .ref h0), (1, .ref (g k))]) hx hb dX3_lastWorth_27 hl (k := 3) rfl (pd_inc j1) (by decide) rfl (fun ls hl => ?_)
          refine lv_goto (tgt := 4) hx hb dX3_lastWorth_30 (by decide) ?_
          exact ih j1 (by omega) (by rw [hq]; simp only [lsW]; exact if_neg (by unfold isL; simp [wV_neg.mp c_21])) (by omega) ls (lv_sub hl [2, 3, 0] rfl)
        · refine lv_iload hx hb dX3_lastWorth_24 (lv_at hl 0 rfl) ?_
          exact W.iret (v := (wV k (b j1))) hx hb hr (fun t ht hW => ⟨(congrArg (fun z => Outcome.returned (some (Value.int z))) (show (wV k (b j1)) = (nI (lsW k b f9)) from (by
                have h9 : wN k (b j1) < 64 := Decidable.not_not.mp (fun q => c_21 (wV_neg.mpr q))
                rw [wV_pos h9, hq]; simp [lsW, isL, h9]))), ht⟩) (fun q h => nomatch h) dX3_lastWorth_26
  exact K1 _ f9 (by omega) (rfl) (Nat.lt_succ_self _) ls (lv_sub hl [1, 2, 0] rfl)
set_option maxHeartbeats 4000000 in
set_option maxRecDepth 100000 in
/-- whether bits are left -/
theorem c_X3_hasBitsLeft (l : Launch) (D : va_G) (T : Nat → ClassId) (g : Nat → Nat) (h0 : Nat) (q0 : Nat) (f : Nat → Int32) (n : Nat) (k : Nat) (f9 : Nat) (L : Nat) (b : Nat → Nat) (hb9 : RB f n b) (hk : k < 3) (hf : f9 ≤ n ∧ L ≤ 440) : RO l yX3_hasBitsLeft wsX3_hasBitsLeft ({ frames := 2, cells := 0, slots := 0, locals := 45 } : Room) D T g [.ref h0, .ref (g k), .int (nI f9), .int (nI L)] [(h0, .inr (0, [.ref q0, .int (nI n)])), (q0, .inl (T 0, 440, .inl f))] (.int (bI (hbB k b f9 L))) := by
  refine Met.ofW (cc := cX3_hasBitsLeft) (maxL := 6) (ret := (some .boolean)) (by decide) rfl ?_
  intro p e s m args below meth c s₁ B hml hv
  obtain ⟨rfl, hP, hK, hG⟩ := hv
  have hx := B.exec
  have hb := B.bytes
  have hr := B.returns
  have hts := atoms_spec (ws := wsX3_hasBitsLeft) B.pre
  have hown : s.vm.findClass RX3 = some m.cls := findClass_of_methodNamed B.named
  have hlocks := B.notSynchronized
  have hS : va_S (fun _ => False) s.heap s.heap [] := va_S.rf
  have hl := lv_entry ([.ref h0, .ref (g k), .int (nI f9), .int (nI L)]) (n := 6) (Nat.le_of_ble_eq_true rfl)
  rw [lg_entry_eq]
  generalize (lg_sl ([.ref h0, .ref (g k), .int (nI f9), .int (nI L)]) ++ List.replicate (6 - (lg_sl ([.ref h0, .ref (g k), .int (nI f9), .int (nI L)])).length) Slot.unset).toArray = ls at hl ⊢
  have hl : lv_has ls 6 [(0, .ref h0), (1, .ref (g k)), (2, .int (nI f9)), (3, .int (nI L))] := hl
  have hls := lsW_lt k b f9
  have hd9 := duN_le L
  refine lv_iload_n hx hb dX3_hasBitsLeft_0 rfl (lv_at hl 3 rfl) ?_
  refine ro_S (As := [.int (nI L)]) (rest := []) (wc := []) (r := .int (nI (duN L))) ⟨hx, hb, hml, hown, hts⟩ (c_X3_dueFilling l D T g L (by omega)) (va_cwS 1 hts gX3_hasBitsLeft_X3_dueFilling rfl rfl rfl (by decide +kernel) ⟨Nat.le_of_ble_eq_true rfl, Nat.le_of_ble_eq_true rfl⟩) hP hK hG hS [] rfl ⟨Nat.zero_le _, Nat.zero_le _⟩ rfl hl.1 (Nat.le_of_ble_eq_true rfl) dX3_hasBitsLeft_1 rfl ?_
  refine lv_istore (lv' := [(4, .int (nI (duN L))), (0, .ref h0), (1, .ref (g k)), (2, .int (nI f9)), (3, .int (nI L))]) hx hb dX3_hasBitsLeft_4 hl (by decide) rfl (fun ls hl => ?_)
  refine lv_iload hx hb dX3_hasBitsLeft_6 (lv_at hl 0 rfl) ?_
  refine lv_iconst (v := (nI 2)) hx hb dX3_hasBitsLeft_8 (by decide +kernel) ?_
  refine ln_icmp_ne (tgt := 17) hx hb ⟨by omega, by omega⟩ dX3_hasBitsLeft_9 (by decide) (fun c_9 => ?_) (fun c_9 => ?_)
  · refine lv_iload hx hb dX3_hasBitsLeft_17 (lv_at hl 0 rfl) ?_
    refine lv_iconst (v := (nI 1)) hx hb dX3_hasBitsLeft_19 (by decide +kernel) ?_
    refine ln_icmp_ne (tgt := 27) hx hb ⟨by omega, by omega⟩ dX3_hasBitsLeft_20 (by decide) (fun c_20 => ?_) (fun c_20 => ?_)
    · refine lv_iconst (v := (nI 0)) hx hb dX3_hasBitsLeft_27 (by decide +kernel) ?_
      refine lv_istore (lv' := [(5, .int (nI 0)), (4, .int (nI (duN L))), (0, .ref h0), (1, .ref (g k)), (2, .int (nI f9)), (3, .int (nI L))]) hx hb dX3_hasBitsLeft_28 hl (by decide) rfl (fun ls hl => ?_)
      refine lv_aload_n hx hb dX3_hasBitsLeft_30 rfl (lv_at hl 2 rfl) ?_
      refine lv_aload_n hx hb dX3_hasBitsLeft_31 rfl (lv_at hl 3 rfl) ?_
      refine lv_iload_n hx hb dX3_hasBitsLeft_32 rfl (lv_at hl 4 rfl) ?_
      refine ro_S (As := [.ref h0, .ref (g k), .int (nI f9)]) (rest := []) (wc := [(h0, .inr (0, [.ref q0, .int (nI n)])), (q0, .inl (T 0, 440, .inl f))]) (r := .int (nI (lsW k b f9))) ⟨hx, hb, hml, hown, hts⟩ (c_X3_lastWorth l D T g h0 q0 f n k f9 b hb9 hk (by omega)) (va_cwS 3 hts gX3_hasBitsLeft_X3_lastWorth rfl rfl rfl (by decide +kernel) ⟨Nat.le_of_ble_eq_true rfl, Nat.le_of_ble_eq_true rfl⟩) hP hK hG hS [0, 1] rfl ⟨Nat.zero_le _, Nat.zero_le _⟩ rfl hl.1 (Nat.le_of_ble_eq_true rfl) dX3_hasBitsLeft_33 rfl ?_
      refine lv_iload hx hb dX3_hasBitsLeft_36 (lv_at hl 0 rfl) ?_
      refine ln_and hx hb 0 (by omega) (by decide +kernel) dX3_hasBitsLeft_38 ?_
      refine ln_if_eq (tgt := 46) hx hb (by omega) dX3_hasBitsLeft_39 (by decide) (fun c_39 => ?_) (fun c_39 => ?_)
      · refine lv_iconst (v := (nI 0)) hx hb dX3_hasBitsLeft_46 (by decide +kernel) ?_
        exact W.zret (v := (nI 0)) (ty := .boolean) hx hb hr (rfl) (fun t ht hW => ⟨(congrArg (fun z => Outcome.returned (some (Value.int z))) (show (nI 0) = (bI (hbB k b f9 L)) from bI_f (decide_eq_false (by omega)))), ht⟩) (fun q h => nomatch h) dX3_hasBitsLeft_47
      · refine lv_iconst (v := (nI 1)) hx hb dX3_hasBitsLeft_42 (by decide +kernel) ?_
        refine lv_goto (tgt := 47) hx hb dX3_hasBitsLeft_43 (by decide) ?_
        exact W.zret (v := (nI 1)) (ty := .boolean) hx hb hr (rfl) (fun t ht hW => ⟨(congrArg (fun z => Outcome.returned (some (Value.int z))) (show (nI 1) = (bI (hbB k b f9 L)) from bI_t (decide_eq_true (by omega)))), ht⟩) (fun q h => nomatch h) dX3_hasBitsLeft_47
    · refine lv_iconst (v := (nI 3)) hx hb dX3_hasBitsLeft_23 (by decide +kernel) ?_
      refine lv_goto (tgt := 28) hx hb dX3_hasBitsLeft_24 (by decide) ?_
      refine lv_istore (lv' := [(5, .int (nI 3)), (4, .int (nI (duN L))), (0, .ref h0), (1, .ref (g k)), (2, .int (nI f9)), (3, .int (nI L))]) hx hb dX3_hasBitsLeft_28 hl (by decide) rfl (fun ls hl => ?_)
      refine lv_aload_n hx hb dX3_hasBitsLeft_30 rfl (lv_at hl 2 rfl) ?_
      refine lv_aload_n hx hb dX3_hasBitsLeft_31 rfl (lv_at hl 3 rfl) ?_
      refine lv_iload_n hx hb dX3_hasBitsLeft_32 rfl (lv_at hl 4 rfl) ?_
      refine ro_S (As := [.ref h0, .ref (g k), .int (nI f9)]) (rest := []) (wc := [(h0, .inr (0, [.ref q0, .int (nI n)])), (q0, .inl (T 0, 440, .inl f))]) (r := .int (nI (lsW k b f9))) ⟨hx, hb, hml, hown, hts⟩ (c_X3_lastWorth l D T g h0 q0 f n k f9 b hb9 hk (by omega)) (va_cwS 3 hts gX3_hasBitsLeft_X3_lastWorth rfl rfl rfl (by decide +kernel) ⟨Nat.le_of_ble_eq_true rfl, Nat.le_of_ble_eq_true rfl⟩) hP hK hG hS [0, 1] rfl ⟨Nat.zero_le _, Nat.zero_le _⟩ rfl hl.1 (Nat.le_of_ble_eq_true rfl) dX3_hasBitsLeft_33 rfl ?_
      refine lv_iload hx hb dX3_hasBitsLeft_36 (lv_at hl 0 rfl) ?_
      refine ln_and hx hb 2 (by omega) (by decide +kernel) dX3_hasBitsLeft_38 ?_
      refine ln_if_eq (tgt := 46) hx hb (by omega) dX3_hasBitsLeft_39 (by decide) (fun c_39 => ?_) (fun c_39 => ?_)
      · refine lv_iconst (v := (nI 0)) hx hb dX3_hasBitsLeft_46 (by decide +kernel) ?_
        exact W.zret (v := (nI 0)) (ty := .boolean) hx hb hr (rfl) (fun t ht hW => ⟨(congrArg (fun z => Outcome.returned (some (Value.int z))) (show (nI 0) = (bI (hbB k b f9 L)) from bI_f (decide_eq_false (by omega)))), ht⟩) (fun q h => nomatch h) dX3_hasBitsLeft_47
      · refine lv_iconst (v := (nI 1)) hx hb dX3_hasBitsLeft_42 (by decide +kernel) ?_
        refine lv_goto (tgt := 47) hx hb dX3_hasBitsLeft_43 (by decide) ?_
        exact W.zret (v := (nI 1)) (ty := .boolean) hx hb hr (rfl) (fun t ht hW => ⟨(congrArg (fun z => Outcome.returned (some (Value.int z))) (show (nI 1) = (bI (hbB k b f9 L)) from bI_t (decide_eq_true (by omega)))), ht⟩) (fun q h => nomatch h) dX3_hasBitsLeft_47
  · refine lv_bipush (v := (nI 15)) hx hb dX3_hasBitsLeft_12 (by decide +kernel) ?_
    refine lv_goto (tgt := 28) hx hb dX3_hasBitsLeft_14 (by decide) ?_
    refine lv_istore (lv' := [(5, .int (nI 15)), (4, .int (nI (duN L))), (0, .ref h0), (1, .ref (g k)), (2, .int (nI f9)), (3, .int (nI L))]) hx hb dX3_hasBitsLeft_28 hl (by decide) rfl (fun ls hl => ?_)
    refine lv_aload_n hx hb dX3_hasBitsLeft_30 rfl (lv_at hl 2 rfl) ?_
    refine lv_aload_n hx hb dX3_hasBitsLeft_31 rfl (lv_at hl 3 rfl) ?_
    refine lv_iload_n hx hb dX3_hasBitsLeft_32 rfl (lv_at hl 4 rfl) ?_
    refine ro_S (As := [.ref h0, .ref (g k), .int (nI f9)]) (rest := []) (wc := [(h0, .inr (0, [.ref q0, .int (nI n)])), (q0, .inl (T 0, 440, .inl f))]) (r := .int (nI (lsW k b f9))) ⟨hx, hb, hml, hown, hts⟩ (c_X3_lastWorth l D T g h0 q0 f n k f9 b hb9 hk (by omega)) (va_cwS 3 hts gX3_hasBitsLeft_X3_lastWorth rfl rfl rfl (by decide +kernel) ⟨Nat.le_of_ble_eq_true rfl, Nat.le_of_ble_eq_true rfl⟩) hP hK hG hS [0, 1] rfl ⟨Nat.zero_le _, Nat.zero_le _⟩ rfl hl.1 (Nat.le_of_ble_eq_true rfl) dX3_hasBitsLeft_33 rfl ?_
    refine lv_iload hx hb dX3_hasBitsLeft_36 (lv_at hl 0 rfl) ?_
    refine ln_and hx hb 4 (by omega) (by decide +kernel) dX3_hasBitsLeft_38 ?_
    refine ln_if_eq (tgt := 46) hx hb (by omega) dX3_hasBitsLeft_39 (by decide) (fun c_39 => ?_) (fun c_39 => ?_)
    · refine lv_iconst (v := (nI 0)) hx hb dX3_hasBitsLeft_46 (by decide +kernel) ?_
      exact W.zret (v := (nI 0)) (ty := .boolean) hx hb hr (rfl) (fun t ht hW => ⟨(congrArg (fun z => Outcome.returned (some (Value.int z))) (show (nI 0) = (bI (hbB k b f9 L)) from bI_f (decide_eq_false (by omega)))), ht⟩) (fun q h => nomatch h) dX3_hasBitsLeft_47
    · refine lv_iconst (v := (nI 1)) hx hb dX3_hasBitsLeft_42 (by decide +kernel) ?_
      refine lv_goto (tgt := 47) hx hb dX3_hasBitsLeft_43 (by decide) ?_
      exact W.zret (v := (nI 1)) (ty := .boolean) hx hb hr (rfl) (fun t ht hW => ⟨(congrArg (fun z => Outcome.returned (some (Value.int z))) (show (nI 1) = (bI (hbB k b f9 L)) from bI_t (decide_eq_true (by omega)))), ht⟩) (fun q h => nomatch h) dX3_hasBitsLeft_47
set_option maxHeartbeats 4000000 in
set_option maxRecDepth 100000 in
/-- what would come of reading a row -/
theorem c_X3_tell (l : Launch) (D : va_G) (T : Nat → ClassId) (g : Nat → Nat) (h0 : Nat) (q0 : Nat) (f : Nat → Int32) (n : Nat) (k : Nat) (b : Nat → Nat) (hb9 : RB f n b) (hk : k < 3) : RO l yX3_tell wsX3_tell ({ frames := 3, cells := 0, slots := 0, locals := 70 } : Room) D T g [.ref h0, .ref (g k)] [(h0, .inr (0, [.ref q0, .int (nI n)])), (q0, .inl (T 0, 440, .inl f))] (.int (tlI k n b)) := by
  refine Met.ofW (cc := cX3_tell) (maxL := 5) (ret := (some .int)) (by decide) rfl ?_
  intro p e s m args below meth c s₁ B hml hv
  obtain ⟨rfl, hP, hK, hG⟩ := hv
  have hx := B.exec
  have hb := B.bytes
  have hr := B.returns
  have hts := atoms_spec (ws := wsX3_tell) B.pre
  have hown : s.vm.findClass RX3 = some m.cls := findClass_of_methodNamed B.named
  have hlocks := B.notSynchronized
  have hS : va_S (fun _ => False) s.heap s.heap [] := va_S.rf
  have hl := lv_entry ([.ref h0, .ref (g k)]) (n := 5) (Nat.le_of_ble_eq_true rfl)
  rw [lg_entry_eq]
  generalize (lg_sl ([.ref h0, .ref (g k)]) ++ List.replicate (5 - (lg_sl ([.ref h0, .ref (g k)])).length) Slot.unset).toArray = ls at hl ⊢
  have hl : lv_has ls 5 [(0, .ref h0), (1, .ref (g k))] := hl
  have hn := hb9.1
  have kh := kH_lt k
  have hk2 := kH_2 (k := k)
  have hf1 := fF_le n b
  have hf2 := ctN_le (ltB k b) (fF n b)
  have hf3 := ctN_le (eqB b) n
  have hd9 := duN_le (ctN (ltB k b) (fF n b))
  refine lv_aload_n hx hb dX3_tell_0 rfl (lv_at hl 0 rfl) ?_
  refine ro_V (As := []) (rest := []) (wc := [(h0, .inr (0, [.ref q0, .int (nI n)])), (q0, .inl (T 0, 440, .inl f))]) (r := .int (nI (fF n b))) ⟨hx, hb, hml, hown, hts⟩ (c_X2_firstFilling l D T g h0 q0 f n b hb9) (cwV 0 hts gX3_tell_X2_firstFilling rfl rfl rfl (by decide +kernel) ⟨Nat.le_of_ble_eq_true rfl, Nat.le_of_ble_eq_true rfl⟩) (va_recv hK hP (ci := 0) (q0 := 0) rfl rfl) hP hK hG hS [0, 1] rfl ⟨Nat.zero_le _, Nat.zero_le _⟩ rfl hl.1 (Nat.le_of_ble_eq_true rfl) dX3_tell_1 rfl ?_
  refine lv_istore_n (lv' := [(2, .int (nI (fF n b))), (0, .ref h0), (1, .ref (g k))]) hx hb dX3_tell_4 rfl hl (by decide) rfl (fun ls hl => ?_)
  refine lv_aload_n hx hb dX3_tell_5 rfl (lv_at hl 1 rfl) ?_
  refine lv_aload_n hx hb dX3_tell_6 rfl (lv_at hl 2 rfl) ?_
  refine lv_iload_n hx hb dX3_tell_7 rfl (lv_at hl 0 rfl) ?_
  refine ro_V (As := [.ref (g k), .int (nI (fF n b))]) (rest := []) (wc := [(h0, .inr (0, [.ref q0, .int (nI n)])), (q0, .inl (T 0, 440, .inl f))]) (r := .int (nI (ctN (ltB k b) (fF n b)))) ⟨hx, hb, hml, hown, hts⟩ (c_X2_countLetters l D T g h0 q0 f n k (fF n b) b hb9 hk (by omega)) (cwV 2 hts gX3_tell_X2_countLetters rfl rfl rfl (by decide +kernel) ⟨Nat.le_of_ble_eq_true rfl, Nat.le_of_ble_eq_true rfl⟩) (va_recv hK hP (ci := 0) (q0 := 0) rfl rfl) hP hK hG hS [0, 1] rfl ⟨Nat.zero_le _, Nat.zero_le _⟩ rfl hl.1 (Nat.le_of_ble_eq_true rfl) dX3_tell_8 rfl ?_
  refine lv_istore_n (lv' := [(3, .int (nI (ctN (ltB k b) (fF n b)))), (2, .int (nI (fF n b))), (0, .ref h0), (1, .ref (g k))]) hx hb dX3_tell_11 rfl hl (by decide) rfl (fun ls hl => ?_)
  refine lv_aload_n hx hb dX3_tell_12 rfl (lv_at hl 2 rfl) ?_
  refine lv_iload_n hx hb dX3_tell_13 rfl (lv_at hl 1 rfl) ?_
  refine ro_V (As := [.int (nI (fF n b))]) (rest := []) (wc := [(h0, .inr (0, [.ref q0, .int (nI n)])), (q0, .inl (T 0, 440, .inl f))]) (r := .int (nI (ctN (eqB b) n - ctN (eqB b) (fF n b)))) ⟨hx, hb, hml, hown, hts⟩ (c_X2_countFilling l D T g h0 q0 f n (fF n b) b hb9 (by omega)) (cwV 1 hts gX3_tell_X2_countFilling rfl rfl rfl (by decide +kernel) ⟨Nat.le_of_ble_eq_true rfl, Nat.le_of_ble_eq_true rfl⟩) (va_recv hK hP (ci := 0) (q0 := 0) rfl rfl) hP hK hG hS [0, 1] rfl ⟨Nat.zero_le _, Nat.zero_le _⟩ rfl hl.1 (Nat.le_of_ble_eq_true rfl) dX3_tell_14 rfl ?_
  refine lv_istore (lv' := [(4, .int (nI (ctN (eqB b) n - ctN (eqB b) (fF n b)))), (3, .int (nI (ctN (ltB k b) (fF n b)))), (2, .int (nI (fF n b))), (0, .ref h0), (1, .ref (g k))]) hx hb dX3_tell_17 hl (by decide) rfl (fun ls hl => ?_)
  refine lv_aload_n hx hb dX3_tell_19 rfl (lv_at hl 4 rfl) ?_
  refine va_getEN hx hb hG.1 (show _ < KN.length from hk) hS hown (q := FK[2]) (List.mem_of_getElem? (i := 2) rfl) (va_Nw.use rfl (hG.2.2.2.2.2.2.2.1 _ (List.mem_of_getElem? (i := 6) rfl))) (fun _ h9 => h9) dX3_tell_20 ?_
  rw [show (FK[2]).2.2.2.getD k 0 = nI (kH k) from k_f2 _ (hk)]
  have J1 : (kH k = 0 → ctN (ltB k b) (fF n b) = fF n b) → ∀ ls : Array Slot, lv_has ls 5 [(0, .ref h0), (1, .ref (g k)), (2, .int (nI (fF n b))), (3, .int (nI (ctN (ltB k b) (fF n b)))), (4, .int (nI (ctN (eqB b) n - ctN (eqB b) (fF n b))))] → W p l e (headSpec wsX3_tell ({ frames := 3, cells := 0, slots := 0, locals := 70 } : Room)).room s m ([.ref h0, .ref (g k)] : List Value).toArray below meth c s.heap [] 0 0 (MQ below (k2_QcV (.int (tlI k n b))) ([.ref h0, .ref (g k)] : List Value).toArray s 0 0 (fun _ => False)) (F0 m 33 ls []) := by
    intro  hj ls hl
    refine lv_iload_n hx hb dX3_tell_33 rfl (lv_at hl 3 rfl) ?_
    refine lv_iload hx hb dX3_tell_34 (lv_at hl 4 rfl) ?_
    refine lv_aload_n hx hb dX3_tell_36 rfl (lv_at hl 1 rfl) ?_
    refine ro_S (As := [.int (nI (ctN (ltB k b) (fF n b))), .int (nI (ctN (eqB b) n - ctN (eqB b) (fF n b))), .ref (g k)]) (rest := []) (wc := []) (r := .int (bI (wrgB k (ctN (ltB k b) (fF n b)) (ctN (eqB b) n - ctN (eqB b) (fF n b))))) ⟨hx, hb, hml, hown, hts⟩ (c_X3_isWrong l D T g (ctN (ltB k b) (fF n b)) (ctN (eqB b) n - ctN (eqB b) (fF n b)) k hk (by omega)) (va_cwS 3 hts gX3_tell_X3_isWrong rfl rfl rfl (by decide +kernel) ⟨Nat.le_of_ble_eq_true rfl, Nat.le_of_ble_eq_true rfl⟩) hP hK hG hS [] rfl ⟨Nat.zero_le _, Nat.zero_le _⟩ rfl hl.1 (Nat.le_of_ble_eq_true rfl) dX3_tell_37 rfl ?_
    refine lv_if_eq (tgt := 45) hx hb dX3_tell_40 (by decide) (fun c_40 => ?_) (fun c_40 => ?_)
    · have hw9 : wroB k n b = false := wro_no (fun q => q.2 (hj (kH_2.mpr q.1))) (bI_z.mp c_40)
      refine lv_aload_n hx hb dX3_tell_45 rfl (lv_at hl 0 rfl) ?_
      refine lv_aload_n hx hb dX3_tell_46 rfl (lv_at hl 1 rfl) ?_
      refine lv_iload_n hx hb dX3_tell_47 rfl (lv_at hl 2 rfl) ?_
      refine ro_S (As := [.ref h0, .ref (g k), .int (nI (fF n b))]) (rest := []) (wc := [(h0, .inr (0, [.ref q0, .int (nI n)])), (q0, .inl (T 0, 440, .inl f))]) (r := .int (bI (utB k b (fF n b) (n - (fF n b) - 1)).2)) ⟨hx, hb, hml, hown, hts⟩ (c_X3_isUntoldBehind l D T g h0 q0 f n k (fF n b) b hb9 hk (by omega)) (va_cwS 3 hts gX3_tell_X3_isUntoldBehind rfl rfl rfl (by decide +kernel) ⟨Nat.le_of_ble_eq_true rfl, Nat.le_of_ble_eq_true rfl⟩) hP hK hG hS [0, 1] rfl ⟨Nat.zero_le _, Nat.zero_le _⟩ rfl hl.1 (Nat.le_of_ble_eq_true rfl) dX3_tell_48 rfl ?_
      refine lv_if_ne (tgt := 80) hx hb dX3_tell_51 (by decide) (fun c_51 => ?_) (fun c_51 => ?_)
      · refine lv_bipush (v := (-2)) hx hb dX3_tell_80 (by decide +kernel) ?_
        exact W.iret (v := (-2)) hx hb hr (fun t ht hW => ⟨(congrArg (fun z => Outcome.returned (some (Value.int z))) (show (-2) = (tlI k n b) from (by first | exact tl_u hw9 (unt_1 (bI_nz.mp c_51)) | exact tl_u hw9 (unt_3 (bI_nz.mp c_77)) | exact tl_u hw9 (unt_2 (Decidable.not_not.mp (fun q => c_58 (kH_2.mpr q))) c_67)))), ht⟩) (fun q h => nomatch h) dX3_tell_82
      · refine lv_aload_n hx hb dX3_tell_54 rfl (lv_at hl 1 rfl) ?_
        refine va_getEN hx hb hG.1 (show _ < KN.length from hk) hS hown (q := FK[2]) (List.mem_of_getElem? (i := 2) rfl) (va_Nw.use rfl (hG.2.2.2.2.2.2.2.1 _ (List.mem_of_getElem? (i := 6) rfl))) (fun _ h9 => h9) dX3_tell_55 ?_
        rw [show (FK[2]).2.2.2.getD k 0 = nI (kH k) from k_f2 _ (hk)]
        refine ln_if_eq (tgt := 70) hx hb (by omega) dX3_tell_58 (by decide) (fun c_58 => ?_) (fun c_58 => ?_)
        · refine lv_aload_n hx hb dX3_tell_70 rfl (lv_at hl 0 rfl) ?_
          refine lv_aload_n hx hb dX3_tell_71 rfl (lv_at hl 1 rfl) ?_
          refine lv_iload_n hx hb dX3_tell_72 rfl (lv_at hl 2 rfl) ?_
          refine lv_iload_n hx hb dX3_tell_73 rfl (lv_at hl 3 rfl) ?_
          refine ro_S (As := [.ref h0, .ref (g k), .int (nI (fF n b)), .int (nI (ctN (ltB k b) (fF n b)))]) (rest := []) (wc := [(h0, .inr (0, [.ref q0, .int (nI n)])), (q0, .inl (T 0, 440, .inl f))]) (r := .int (bI (hbB k b (fF n b) (ctN (ltB k b) (fF n b))))) ⟨hx, hb, hml, hown, hts⟩ (c_X3_hasBitsLeft l D T g h0 q0 f n k (fF n b) (ctN (ltB k b) (fF n b)) b hb9 hk (by omega)) (va_cwS 4 hts gX3_tell_X3_hasBitsLeft rfl rfl rfl (by decide +kernel) ⟨Nat.le_of_ble_eq_true rfl, Nat.le_of_ble_eq_true rfl⟩) hP hK hG hS [0, 1] rfl ⟨Nat.zero_le _, Nat.zero_le _⟩ rfl hl.1 (Nat.le_of_ble_eq_true rfl) dX3_tell_74 rfl ?_
          refine lv_if_eq (tgt := 83) hx hb dX3_tell_77 (by decide) (fun c_77 => ?_) (fun c_77 => ?_)
          · refine lv_iload_n hx hb dX3_tell_83 rfl (lv_at hl 3 rfl) ?_
            refine lv_bipush (v := (nI 6)) hx hb dX3_tell_84 (by decide +kernel) ?_
            refine ln_mul hx hb dX3_tell_86 ?_
            refine lv_bipush (v := (nI 8)) hx hb dX3_tell_87 (by decide +kernel) ?_
            refine ln_div hx hb ⟨by omega, by omega, by omega⟩ dX3_tell_89 ?_
            exact W.iret (v := (nI (((ctN (ltB k b) (fF n b)) * 6) / 8))) hx hb hr (fun t ht hW => ⟨(congrArg (fun z => Outcome.returned (some (Value.int z))) (show (nI (((ctN (ltB k b) (fF n b)) * 6) / 8)) = (tlI k n b) from tl_r hw9 (unt_no (bI_z.mp c_51) (by first | exact fun q => kH_2.mp c_58 q.1 | exact fun q => c_67 q.2) (bI_z.mp c_77)))), ht⟩) (fun q h => nomatch h) dX3_tell_90
          · refine lv_bipush (v := (-2)) hx hb dX3_tell_80 (by decide +kernel) ?_
            exact W.iret (v := (-2)) hx hb hr (fun t ht hW => ⟨(congrArg (fun z => Outcome.returned (some (Value.int z))) (show (-2) = (tlI k n b) from (by first | exact tl_u hw9 (unt_1 (bI_nz.mp c_51)) | exact tl_u hw9 (unt_3 (bI_nz.mp c_77)) | exact tl_u hw9 (unt_2 (Decidable.not_not.mp (fun q => c_58 (kH_2.mpr q))) c_67)))), ht⟩) (fun q h => nomatch h) dX3_tell_82
        · refine lv_iload hx hb dX3_tell_61 (lv_at hl 4 rfl) ?_
          refine lv_iload_n hx hb dX3_tell_63 rfl (lv_at hl 3 rfl) ?_
          refine ro_S (As := [.int (nI (ctN (ltB k b) (fF n b)))]) (rest := [.int (nI (ctN (eqB b) n - ctN (eqB b) (fF n b)))]) (wc := []) (r := .int (nI (duN (ctN (ltB k b) (fF n b))))) ⟨hx, hb, hml, hown, hts⟩ (c_X3_dueFilling l D T g (ctN (ltB k b) (fF n b)) (by omega)) (va_cwS 1 hts gX3_tell_X3_dueFilling rfl rfl rfl (by decide +kernel) ⟨Nat.le_of_ble_eq_true rfl, Nat.le_of_ble_eq_true rfl⟩) hP hK hG hS [] rfl ⟨Nat.zero_le _, Nat.zero_le _⟩ rfl hl.1 (Nat.le_of_ble_eq_true rfl) dX3_tell_64 rfl ?_
          refine ln_icmp_gt (tgt := 80) hx hb ⟨by omega, by omega⟩ dX3_tell_67 (by decide) (fun c_67 => ?_) (fun c_67 => ?_)
          · refine lv_bipush (v := (-2)) hx hb dX3_tell_80 (by decide +kernel) ?_
            exact W.iret (v := (-2)) hx hb hr (fun t ht hW => ⟨(congrArg (fun z => Outcome.returned (some (Value.int z))) (show (-2) = (tlI k n b) from (by first | exact tl_u hw9 (unt_1 (bI_nz.mp c_51)) | exact tl_u hw9 (unt_3 (bI_nz.mp c_77)) | exact tl_u hw9 (unt_2 (Decidable.not_not.mp (fun q => c_58 (kH_2.mpr q))) c_67)))), ht⟩) (fun q h => nomatch h) dX3_tell_82
          · refine lv_aload_n hx hb dX3_tell_70 rfl (lv_at hl 0 rfl) ?_
            refine lv_aload_n hx hb dX3_tell_71 rfl (lv_at hl 1 rfl) ?_
            refine lv_iload_n hx hb dX3_tell_72 rfl (lv_at hl 2 rfl) ?_
            refine lv_iload_n hx hb dX3_tell_73 rfl (lv_at hl 3 rfl) ?_
            refine ro_S (As := [.ref h0, .ref (g k), .int (nI (fF n b)), .int (nI (ctN (ltB k b) (fF n b)))]) (rest := []) (wc := [(h0, .inr (0, [.ref q0, .int (nI n)])), (q0, .inl (T 0, 440, .inl f))]) (r := .int (bI (hbB k b (fF n b) (ctN (ltB k b) (fF n b))))) ⟨hx, hb, hml, hown, hts⟩ (c_X3_hasBitsLeft l D T g h0 q0 f n k (fF n b) (ctN (ltB k b) (fF n b)) b hb9 hk (by omega)) (va_cwS 4 hts gX3_tell_X3_hasBitsLeft rfl rfl rfl (by decide +kernel) ⟨Nat.le_of_ble_eq_true rfl, Nat.le_of_ble_eq_true rfl⟩) hP hK hG hS [0, 1] rfl ⟨Nat.zero_le _, Nat.zero_le _⟩ rfl hl.1 (Nat.le_of_ble_eq_true rfl) dX3_tell_74 rfl ?_
            refine lv_if_eq (tgt := 83) hx hb dX3_tell_77 (by decide) (fun c_77 => ?_) (fun c_77 => ?_)
            · refine lv_iload_n hx hb dX3_tell_83 rfl (lv_at hl 3 rfl) ?_
              refine lv_bipush (v := (nI 6)) hx hb dX3_tell_84 (by decide +kernel) ?_
              refine ln_mul hx hb dX3_tell_86 ?_
              refine lv_bipush (v := (nI 8)) hx hb dX3_tell_87 (by decide +kernel) ?_
              refine ln_div hx hb ⟨by omega, by omega, by omega⟩ dX3_tell_89 ?_
              exact W.iret (v := (nI (((ctN (ltB k b) (fF n b)) * 6) / 8))) hx hb hr (fun t ht hW => ⟨(congrArg (fun z => Outcome.returned (some (Value.int z))) (show (nI (((ctN (ltB k b) (fF n b)) * 6) / 8)) = (tlI k n b) from tl_r hw9 (unt_no (bI_z.mp c_51) (by first | exact fun q => kH_2.mp c_58 q.1 | exact fun q => c_67 q.2) (bI_z.mp c_77)))), ht⟩) (fun q h => nomatch h) dX3_tell_90
            · refine lv_bipush (v := (-2)) hx hb dX3_tell_80 (by decide +kernel) ?_
              exact W.iret (v := (-2)) hx hb hr (fun t ht hW => ⟨(congrArg (fun z => Outcome.returned (some (Value.int z))) (show (-2) = (tlI k n b) from (by first | exact tl_u hw9 (unt_1 (bI_nz.mp c_51)) | exact tl_u hw9 (unt_3 (bI_nz.mp c_77)) | exact tl_u hw9 (unt_2 (Decidable.not_not.mp (fun q => c_58 (kH_2.mpr q))) c_67)))), ht⟩) (fun q h => nomatch h) dX3_tell_82
    · refine lv_iconst (v := (-1)) hx hb dX3_tell_43 (by decide +kernel) ?_
      exact W.iret (v := (-1)) hx hb hr (fun t ht hW => ⟨(congrArg (fun z => Outcome.returned (some (Value.int z))) (show (-1) = (tlI k n b) from tl_w (wro_2 (bI_nz.mp c_40)))), ht⟩) (fun q h => nomatch h) dX3_tell_44
  refine ln_if_ne (tgt := 33) hx hb (by omega) dX3_tell_23 (by decide) (fun c_23 => ?_) (fun c_23 => ?_)
  · exact J1  (by first | exact fun q => absurd q c_23 | exact fun _ => c_28) ls (lv_sub hl [3, 4, 2, 1, 0] rfl)
  · refine lv_iload_n hx hb dX3_tell_26 rfl (lv_at hl 1 rfl) ?_
    refine lv_iload_n hx hb dX3_tell_27 rfl (lv_at hl 2 rfl) ?_
    refine ln_icmp_eq (tgt := 33) hx hb ⟨by omega, by omega⟩ dX3_tell_28 (by decide) (fun c_28 => ?_) (fun c_28 => ?_)
    · exact J1  (by first | exact fun q => absurd q c_23 | exact fun _ => c_28) ls (lv_sub hl [3, 4, 2, 1, 0] rfl)
    · refine lv_iconst (v := (-1)) hx hb dX3_tell_31 (by decide +kernel) ?_
      exact W.iret (v := (-1)) hx hb hr (fun t ht hW => ⟨(congrArg (fun z => Outcome.returned (some (Value.int z))) (show (-1) = (tlI k n b) from tl_w (wro_1 (kH_2.mp c_23) c_28))), ht⟩) (fun q h => nomatch h) dX3_tell_32
