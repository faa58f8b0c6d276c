set_option maxHeartbeats 4000000 in
set_option maxRecDepth 100000 in
/-- the letter of a worth -/
theorem c_X0_letterOf (l : Launch) (D : va_G) (T : Nat → ClassId) (g : Nat → Nat) (k : Nat) (w : Nat) (hk : k < 3) (hw : w < 64) : RO l yX0_letterOf wsX0_letterOf ({ frames := 0, cells := 0, slots := 0, locals := 0 } : Room) D T g [.ref (g k), .int (nI w)] [] (.int (nI (letN k w))) := by
  refine Met.ofW (cc := cX0_letterOf) (maxL := 2) (ret := (some .int)) (by decide) rfl ?_
  intro p e s m args below meth c s₁ B hml hv
  obtain ⟨rfl, hP, hK, hG⟩ := hv
  have hx := B.exec
  have hb := B.bytes
  have hr := B.returns
  have hts := atoms_spec (ws := wsX0_letterOf) B.pre
  have hown : s.vm.findClass RX0 = some m.cls := findClass_of_methodNamed B.named
  have hlocks := B.notSynchronized
  have hS : va_S (fun _ => False) s.heap s.heap [] := va_S.rf
  have hl := lv_entry ([.ref (g k), .int (nI w)]) (n := 2) (Nat.le_of_ble_eq_true rfl)
  rw [lg_entry_eq]
  generalize (lg_sl ([.ref (g k), .int (nI w)]) ++ List.replicate (2 - (lg_sl ([.ref (g k), .int (nI w)])).length) Slot.unset).toArray = ls at hl ⊢
  have hl : lv_has ls 2 [(0, .ref (g k)), (1, .int (nI w))] := hl
  refine lv_iload_n hx hb dX0_letterOf_0 rfl (lv_at hl 1 rfl) ?_
  refine lv_bipush (v := (nI 26)) hx hb dX0_letterOf_1 (by decide +kernel) ?_
  refine ln_icmp_ge (tgt := 11) hx hb ⟨by omega, by omega⟩ dX0_letterOf_3 (by decide) (fun c_3 => ?_) (fun c_3 => ?_)
  · refine lv_iload_n hx hb dX0_letterOf_11 rfl (lv_at hl 1 rfl) ?_
    refine lv_bipush (v := (nI 52)) hx hb dX0_letterOf_12 (by decide +kernel) ?_
    refine ln_icmp_ge (tgt := 25) hx hb ⟨by omega, by omega⟩ dX0_letterOf_14 (by decide) (fun c_14 => ?_) (fun c_14 => ?_)
    · refine lv_iload_n hx hb dX0_letterOf_25 rfl (lv_at hl 1 rfl) ?_
      refine lv_bipush (v := (nI 62)) hx hb dX0_letterOf_26 (by decide +kernel) ?_
      refine ln_icmp_ge (tgt := 39) hx hb ⟨by omega, by omega⟩ dX0_letterOf_28 (by decide) (fun c_28 => ?_) (fun c_28 => ?_)
      · refine lv_iload_n hx hb dX0_letterOf_39 rfl (lv_at hl 1 rfl) ?_
        refine lv_bipush (v := (nI 62)) hx hb dX0_letterOf_40 (by decide +kernel) ?_
        refine ln_icmp_ne (tgt := 52) hx hb ⟨by omega, by omega⟩ dX0_letterOf_42 (by decide) (fun c_42 => ?_) (fun c_42 => ?_)
        · refine lv_aload_n hx hb dX0_letterOf_52 rfl (lv_at hl 0 rfl) ?_
          refine va_getE hx hb hG.1 (show _ < KN.length from hk) hS hown (q := FK[1]) (List.mem_of_getElem? (i := 1) rfl) (hts _ (List.mem_of_getElem? (i := 2) rfl)) (fun _ h9 => h9) dX0_letterOf_53 ?_
          rw [show (FK[1]).2.2.2.getD k 0 = nI (kL k) from k_f1 _ (hk)]
          exact W.iret (v := (nI (kL k))) hx hb hr (fun t ht hW => ⟨(congrArg (fun z => Outcome.returned (some (Value.int z))) (show (nI (kL k)) = (nI (letN k w)) from congrArg nI (by unfold letN; (repeat' split) <;> omega))), ht⟩) (fun q h => nomatch h) dX0_letterOf_56
        · refine lv_aload_n hx hb dX0_letterOf_45 rfl (lv_at hl 0 rfl) ?_
          refine va_getE hx hb hG.1 (show _ < KN.length from hk) hS hown (q := FK[0]) (List.mem_of_getElem? (i := 0) rfl) (hts _ (List.mem_of_getElem? (i := 1) rfl)) (fun _ h9 => h9) dX0_letterOf_46 ?_
          rw [show (FK[0]).2.2.2.getD k 0 = nI (kS k) from k_f0 _ (hk)]
          refine lv_goto (tgt := 56) hx hb dX0_letterOf_49 (by decide) ?_
          exact W.iret (v := (nI (kS k))) hx hb hr (fun t ht hW => ⟨(congrArg (fun z => Outcome.returned (some (Value.int z))) (show (nI (kS k)) = (nI (letN k w)) from congrArg nI (by unfold letN; (repeat' split) <;> omega))), ht⟩) (fun q h => nomatch h) dX0_letterOf_56
      · refine lv_bipush (v := (nI 48)) hx hb dX0_letterOf_31 (by decide +kernel) ?_
        refine lv_iload_n hx hb dX0_letterOf_33 rfl (lv_at hl 1 rfl) ?_
        refine ln_add hx hb dX0_letterOf_34 ?_
        refine lv_bipush (v := (nI 52)) hx hb dX0_letterOf_35 (by decide +kernel) ?_
        refine ln_sub hx hb (by omega) dX0_letterOf_37 ?_
        exact W.iret (v := (nI ((48 + w) - 52))) hx hb hr (fun t ht hW => ⟨(congrArg (fun z => Outcome.returned (some (Value.int z))) (show (nI ((48 + w) - 52)) = (nI (letN k w)) from congrArg nI (by unfold letN; (repeat' split) <;> omega))), ht⟩) (fun q h => nomatch h) dX0_letterOf_38
    · refine lv_bipush (v := (nI 97)) hx hb dX0_letterOf_17 (by decide +kernel) ?_
      refine lv_iload_n hx hb dX0_letterOf_19 rfl (lv_at hl 1 rfl) ?_
      refine ln_add hx hb dX0_letterOf_20 ?_
      refine lv_bipush (v := (nI 26)) hx hb dX0_letterOf_21 (by decide +kernel) ?_
      refine ln_sub hx hb (by omega) dX0_letterOf_23 ?_
      exact W.iret (v := (nI ((97 + w) - 26))) hx hb hr (fun t ht hW => ⟨(congrArg (fun z => Outcome.returned (some (Value.int z))) (show (nI ((97 + w) - 26)) = (nI (letN k w)) from congrArg nI (by unfold letN; (repeat' split) <;> omega))), ht⟩) (fun q h => nomatch h) dX0_letterOf_24
  · refine lv_bipush (v := (nI 65)) hx hb dX0_letterOf_6 (by decide +kernel) ?_
    refine lv_iload_n hx hb dX0_letterOf_8 rfl (lv_at hl 1 rfl) ?_
    refine ln_add hx hb dX0_letterOf_9 ?_
    exact W.iret (v := (nI (65 + w))) hx hb hr (fun t ht hW => ⟨(congrArg (fun z => Outcome.returned (some (Value.int z))) (show (nI (65 + w)) = (nI (letN k w)) from congrArg nI (by unfold letN; (repeat' split) <;> omega))), ht⟩) (fun q h => nomatch h) dX0_letterOf_10
set_option maxHeartbeats 4000000 in
set_option maxRecDepth 100000 in
/-- the worth of a sign -/
theorem c_X0_worthOf (l : Launch) (D : va_G) (T : Nat → ClassId) (g : Nat → Nat) (k : Nat) (x : Nat) (hk : k < 3) (hx9 : x < 256) : RO l yX0_worthOf wsX0_worthOf ({ frames := 0, cells := 0, slots := 0, locals := 0 } : Room) D T g [.ref (g k), .int (nI x)] [] (.int (wV k x)) := by
  refine Met.ofW (cc := cX0_worthOf) (maxL := 2) (ret := (some .int)) (by decide) rfl ?_
  intro p e s m args below meth c s₁ B hml hv
  obtain ⟨rfl, hP, hK, hG⟩ := hv
  have hx := B.exec
  have hb := B.bytes
  have hr := B.returns
  have hts := atoms_spec (ws := wsX0_worthOf) B.pre
  have hown : s.vm.findClass RX0 = some m.cls := findClass_of_methodNamed B.named
  have hlocks := B.notSynchronized
  have hS : va_S (fun _ => False) s.heap s.heap [] := va_S.rf
  have hl := lv_entry ([.ref (g k), .int (nI x)]) (n := 2) (Nat.le_of_ble_eq_true rfl)
  rw [lg_entry_eq]
  generalize (lg_sl ([.ref (g k), .int (nI x)]) ++ List.replicate (2 - (lg_sl ([.ref (g k), .int (nI x)])).length) Slot.unset).toArray = ls at hl ⊢
  have hl : lv_has ls 2 [(0, .ref (g k)), (1, .int (nI x))] := hl
  have k1 := kS_lt k
  have k2 := kL_lt k
  refine lv_iload_n hx hb dX0_worthOf_0 rfl (lv_at hl 1 rfl) ?_
  refine lv_bipush (v := (nI 65)) hx hb dX0_worthOf_1 (by decide +kernel) ?_
  refine ln_icmp_lt (tgt := 17) hx hb ⟨by omega, by omega⟩ dX0_worthOf_3 (by decide) (fun c_3 => ?_) (fun c_3 => ?_)
  · refine lv_iload_n hx hb dX0_worthOf_17 rfl (lv_at hl 1 rfl) ?_
    refine lv_bipush (v := (nI 97)) hx hb dX0_worthOf_18 (by decide +kernel) ?_
    refine ln_icmp_lt (tgt := 37) hx hb ⟨by omega, by omega⟩ dX0_worthOf_20 (by decide) (fun c_20 => ?_) (fun c_20 => ?_)
    · refine lv_iload_n hx hb dX0_worthOf_37 rfl (lv_at hl 1 rfl) ?_
      refine lv_bipush (v := (nI 48)) hx hb dX0_worthOf_38 (by decide +kernel) ?_
      refine ln_icmp_lt (tgt := 57) hx hb ⟨by omega, by omega⟩ dX0_worthOf_40 (by decide) (fun c_40 => ?_) (fun c_40 => ?_)
      · refine lv_iload_n hx hb dX0_worthOf_57 rfl (lv_at hl 1 rfl) ?_
        refine lv_aload_n hx hb dX0_worthOf_58 rfl (lv_at hl 0 rfl) ?_
        refine va_getE hx hb hG.1 (show _ < KN.length from hk) hS hown (q := FK[0]) (List.mem_of_getElem? (i := 0) rfl) (hts _ (List.mem_of_getElem? (i := 1) rfl)) (fun _ h9 => h9) dX0_worthOf_59 ?_
        rw [show (FK[0]).2.2.2.getD k 0 = nI (kS k) from k_f0 _ (hk)]
        refine ln_icmp_ne (tgt := 68) hx hb ⟨by omega, by omega⟩ dX0_worthOf_62 (by decide) (fun c_62 => ?_) (fun c_62 => ?_)
        · refine lv_iload_n hx hb dX0_worthOf_68 rfl (lv_at hl 1 rfl) ?_
          refine lv_aload_n hx hb dX0_worthOf_69 rfl (lv_at hl 0 rfl) ?_
          refine va_getE hx hb hG.1 (show _ < KN.length from hk) hS hown (q := FK[1]) (List.mem_of_getElem? (i := 1) rfl) (hts _ (List.mem_of_getElem? (i := 2) rfl)) (fun _ h9 => h9) dX0_worthOf_70 ?_
          rw [show (FK[1]).2.2.2.getD k 0 = nI (kL k) from k_f1 _ (hk)]
          refine ln_icmp_ne (tgt := 81) hx hb ⟨by omega, by omega⟩ dX0_worthOf_73 (by decide) (fun c_73 => ?_) (fun c_73 => ?_)
          · refine lv_iconst (v := (-1)) hx hb dX0_worthOf_81 (by decide +kernel) ?_
            exact W.iret (v := (-1)) hx hb hr (fun t ht hW => ⟨(congrArg (fun z => Outcome.returned (some (Value.int z))) (show (-1) = (wV k x) from wV_m1 (by unfold wN; (repeat' split) <;> omega))), ht⟩) (fun q h => nomatch h) dX0_worthOf_82
          · refine lv_bipush (v := (nI 63)) hx hb dX0_worthOf_76 (by decide +kernel) ?_
            refine lv_goto (tgt := 82) hx hb dX0_worthOf_78 (by decide) ?_
            exact W.iret (v := (nI 63)) hx hb hr (fun t ht hW => ⟨(congrArg (fun z => Outcome.returned (some (Value.int z))) (show (nI 63) = (wV k x) from wV_is (by unfold wN; (repeat' split) <;> omega) (by omega))), ht⟩) (fun q h => nomatch h) dX0_worthOf_82
        · refine lv_bipush (v := (nI 62)) hx hb dX0_worthOf_65 (by decide +kernel) ?_
          exact W.iret (v := (nI 62)) hx hb hr (fun t ht hW => ⟨(congrArg (fun z => Outcome.returned (some (Value.int z))) (show (nI 62) = (wV k x) from wV_is (by unfold wN; (repeat' split) <;> omega) (by omega))), ht⟩) (fun q h => nomatch h) dX0_worthOf_67
      · refine lv_iload_n hx hb dX0_worthOf_43 rfl (lv_at hl 1 rfl) ?_
        refine lv_bipush (v := (nI 57)) hx hb dX0_worthOf_44 (by decide +kernel) ?_
        refine ln_icmp_gt (tgt := 57) hx hb ⟨by omega, by omega⟩ dX0_worthOf_46 (by decide) (fun c_46 => ?_) (fun c_46 => ?_)
        · refine lv_iload_n hx hb dX0_worthOf_57 rfl (lv_at hl 1 rfl) ?_
          refine lv_aload_n hx hb dX0_worthOf_58 rfl (lv_at hl 0 rfl) ?_
          refine va_getE hx hb hG.1 (show _ < KN.length from hk) hS hown (q := FK[0]) (List.mem_of_getElem? (i := 0) rfl) (hts _ (List.mem_of_getElem? (i := 1) rfl)) (fun _ h9 => h9) dX0_worthOf_59 ?_
          rw [show (FK[0]).2.2.2.getD k 0 = nI (kS k) from k_f0 _ (hk)]
          refine ln_icmp_ne (tgt := 68) hx hb ⟨by omega, by omega⟩ dX0_worthOf_62 (by decide) (fun c_62 => ?_) (fun c_62 => ?_)
          · refine lv_iload_n hx hb dX0_worthOf_68 rfl (lv_at hl 1 rfl) ?_
            refine lv_aload_n hx hb dX0_worthOf_69 rfl (lv_at hl 0 rfl) ?_
            refine va_getE hx hb hG.1 (show _ < KN.length from hk) hS hown (q := FK[1]) (List.mem_of_getElem? (i := 1) rfl) (hts _ (List.mem_of_getElem? (i := 2) rfl)) (fun _ h9 => h9) dX0_worthOf_70 ?_
            rw [show (FK[1]).2.2.2.getD k 0 = nI (kL k) from k_f1 _ (hk)]
            refine ln_icmp_ne (tgt := 81) hx hb ⟨by omega, by omega⟩ dX0_worthOf_73 (by decide) (fun c_73 => ?_) (fun c_73 => ?_)
            · refine lv_iconst (v := (-1)) hx hb dX0_worthOf_81 (by decide +kernel) ?_
              exact W.iret (v := (-1)) hx hb hr (fun t ht hW => ⟨(congrArg (fun z => Outcome.returned (some (Value.int z))) (show (-1) = (wV k x) from wV_m1 (by unfold wN; (repeat' split) <;> omega))), ht⟩) (fun q h => nomatch h) dX0_worthOf_82
            · refine lv_bipush (v := (nI 63)) hx hb dX0_worthOf_76 (by decide +kernel) ?_
              refine lv_goto (tgt := 82) hx hb dX0_worthOf_78 (by decide) ?_
              exact W.iret (v := (nI 63)) hx hb hr (fun t ht hW => ⟨(congrArg (fun z => Outcome.returned (some (Value.int z))) (show (nI 63) = (wV k x) from wV_is (by unfold wN; (repeat' split) <;> omega) (by omega))), ht⟩) (fun q h => nomatch h) dX0_worthOf_82
          · refine lv_bipush (v := (nI 62)) hx hb dX0_worthOf_65 (by decide +kernel) ?_
            exact W.iret (v := (nI 62)) hx hb hr (fun t ht hW => ⟨(congrArg (fun z => Outcome.returned (some (Value.int z))) (show (nI 62) = (wV k x) from wV_is (by unfold wN; (repeat' split) <;> omega) (by omega))), ht⟩) (fun q h => nomatch h) dX0_worthOf_67
        · refine lv_iload_n hx hb dX0_worthOf_49 rfl (lv_at hl 1 rfl) ?_
          refine lv_bipush (v := (nI 48)) hx hb dX0_worthOf_50 (by decide +kernel) ?_
          refine ln_sub hx hb (by omega) dX0_worthOf_52 ?_
          refine lv_bipush (v := (nI 52)) hx hb dX0_worthOf_53 (by decide +kernel) ?_
          refine ln_add hx hb dX0_worthOf_55 ?_
          exact W.iret (v := (nI ((x - 48) + 52))) hx hb hr (fun t ht hW => ⟨(congrArg (fun z => Outcome.returned (some (Value.int z))) (show (nI ((x - 48) + 52)) = (wV k x) from wV_is (by unfold wN; (repeat' split) <;> omega) (by omega))), ht⟩) (fun q h => nomatch h) dX0_worthOf_56
    · refine lv_iload_n hx hb dX0_worthOf_23 rfl (lv_at hl 1 rfl) ?_
      refine lv_bipush (v := (nI 122)) hx hb dX0_worthOf_24 (by decide +kernel) ?_
      refine ln_icmp_gt (tgt := 37) hx hb ⟨by omega, by omega⟩ dX0_worthOf_26 (by decide) (fun c_26 => ?_) (fun c_26 => ?_)
      · refine lv_iload_n hx hb dX0_worthOf_37 rfl (lv_at hl 1 rfl) ?_
        refine lv_bipush (v := (nI 48)) hx hb dX0_worthOf_38 (by decide +kernel) ?_
        refine ln_icmp_lt (tgt := 57) hx hb ⟨by omega, by omega⟩ dX0_worthOf_40 (by decide) (fun c_40 => ?_) (fun c_40 => ?_)
        · refine lv_iload_n hx hb dX0_worthOf_57 rfl (lv_at hl 1 rfl) ?_
          refine lv_aload_n hx hb dX0_worthOf_58 rfl (lv_at hl 0 rfl) ?_
          refine va_getE hx hb hG.1 (show _ < KN.length from hk) hS hown (q := FK[0]) (List.mem_of_getElem? (i := 0) rfl) (hts _ (List.mem_of_getElem? (i := 1) rfl)) (fun _ h9 => h9) dX0_worthOf_59 ?_
          rw [show (FK[0]).2.2.2.getD k 0 = nI (kS k) from k_f0 _ (hk)]
          refine ln_icmp_ne (tgt := 68) hx hb ⟨by omega, by omega⟩ dX0_worthOf_62 (by decide) (fun c_62 => ?_) (fun c_62 => ?_)
          · refine lv_iload_n hx hb dX0_worthOf_68 rfl (lv_at hl 1 rfl) ?_
            refine lv_aload_n hx hb dX0_worthOf_69 rfl (lv_at hl 0 rfl) ?_
            refine va_getE hx hb hG.1 (show _ < KN.length from hk) hS hown (q := FK[1]) (List.mem_of_getElem? (i := 1) rfl) (hts _ (List.mem_of_getElem? (i := 2) rfl)) (fun _ h9 => h9) dX0_worthOf_70 ?_
            rw [show (FK[1]).2.2.2.getD k 0 = nI (kL k) from k_f1 _ (hk)]
            refine ln_icmp_ne (tgt := 81) hx hb ⟨by omega, by omega⟩ dX0_worthOf_73 (by decide) (fun c_73 => ?_) (fun c_73 => ?_)
            · refine lv_iconst (v := (-1)) hx hb dX0_worthOf_81 (by decide +kernel) ?_
              exact W.iret (v := (-1)) hx hb hr (fun t ht hW => ⟨(congrArg (fun z => Outcome.returned (some (Value.int z))) (show (-1) = (wV k x) from wV_m1 (by unfold wN; (repeat' split) <;> omega))), ht⟩) (fun q h => nomatch h) dX0_worthOf_82
            · refine lv_bipush (v := (nI 63)) hx hb dX0_worthOf_76 (by decide +kernel) ?_
              refine lv_goto (tgt := 82) hx hb dX0_worthOf_78 (by decide) ?_
              exact W.iret (v := (nI 63)) hx hb hr (fun t ht hW => ⟨(congrArg (fun z => Outcome.returned (some (Value.int z))) (show (nI 63) = (wV k x) from wV_is (by unfold wN; (repeat' split) <;> omega) (by omega))), ht⟩) (fun q h => nomatch h) dX0_worthOf_82
          · refine lv_bipush (v := (nI 62)) hx hb dX0_worthOf_65 (by decide +kernel) ?_
            exact W.iret (v := (nI 62)) hx hb hr (fun t ht hW => ⟨(congrArg (fun z => Outcome.returned (some (Value.int z))) (show (nI 62) = (wV k x) from wV_is (by unfold wN; (repeat' split) <;> omega) (by omega))), ht⟩) (fun q h => nomatch h) dX0_worthOf_67
        · refine lv_iload_n hx hb dX0_worthOf_43 rfl (lv_at hl 1 rfl) ?_
          refine lv_bipush (v := (nI 57)) hx hb dX0_worthOf_44 (by decide +kernel) ?_
          refine ln_icmp_gt (tgt := 57) hx hb ⟨by omega, by omega⟩ dX0_worthOf_46 (by decide) (fun c_46 => ?_) (fun c_46 => ?_)
          · refine lv_iload_n hx hb dX0_worthOf_57 rfl (lv_at hl 1 rfl) ?_
            refine lv_aload_n hx hb dX0_worthOf_58 rfl (lv_at hl 0 rfl) ?_
            refine va_getE hx hb hG.1 (show _ < KN.length from hk) hS hown (q := FK[0]) (List.mem_of_getElem? (i := 0) rfl) (hts _ (List.mem_of_getElem? (i := 1) rfl)) (fun _ h9 => h9) dX0_worthOf_59 ?_
            rw [show (FK[0]).2.2.2.getD k 0 = nI (kS k) from k_f0 _ (hk)]
            refine ln_icmp_ne (tgt := 68) hx hb ⟨by omega, by omega⟩ dX0_worthOf_62 (by decide) (fun c_62 => ?_) (fun c_62 => ?_)
            · refine lv_iload_n hx hb dX0_worthOf_68 rfl (lv_at hl 1 rfl) ?_
              refine lv_aload_n hx hb dX0_worthOf_69 rfl (lv_at hl 0 rfl) ?_
              refine va_getE hx hb hG.1 (show _ < KN.length from hk) hS hown (q := FK[1]) (List.mem_of_getElem? (i := 1) rfl) (hts _ (List.mem_of_getElem? (i := 2) rfl)) (fun _ h9 => h9) dX0_worthOf_70 ?_
              rw [show (FK[1]).2.2.2.getD k 0 = nI (kL k) from k_f1 _ (hk)]
              refine ln_icmp_ne (tgt := 81) hx hb ⟨by omega, by omega⟩ dX0_worthOf_73 (by decide) (fun c_73 => ?_) (fun c_73 => ?_)
              · refine lv_iconst (v := (-1)) hx hb dX0_worthOf_81 (by decide +kernel) ?_
                exact W.iret (v := (-1)) hx hb hr (fun t ht hW => ⟨(congrArg (fun z => Outcome.returned (some (Value.int z))) (show (-1) = (wV k x) from wV_m1 (by unfold wN; (repeat' split) <;> omega))), ht⟩) (fun q h => nomatch h) dX0_worthOf_82
              · refine lv_bipush (v := (nI 63)) hx hb dX0_worthOf_76 (by decide +kernel) ?_
                refine lv_goto (tgt := 82) hx hb dX0_worthOf_78 (by decide) ?_
                exact W.iret (v := (nI 63)) hx hb hr (fun t ht hW => ⟨(congrArg (fun z => Outcome.returned (some (Value.int z))) (show (nI 63) = (wV k x) from wV_is (by unfold wN; (repeat' split) <;> omega) (by omega))), ht⟩) (fun q h => nomatch h) dX0_worthOf_82
            · refine lv_bipush (v := (nI 62)) hx hb dX0_worthOf_65 (by decide +kernel) ?_
              exact W.iret (v := (nI 62)) hx hb hr (fun t ht hW => ⟨(congrArg (fun z => Outcome.returned (some (Value.int z))) (show (nI 62) = (wV k x) from wV_is (by unfold wN; (repeat' split) <;> omega) (by omega))), ht⟩) (fun q h => nomatch h) dX0_worthOf_67
          · refine lv_iload_n hx hb dX0_worthOf_49 rfl (lv_at hl 1 rfl) ?_
            refine lv_bipush (v := (nI 48)) hx hb dX0_worthOf_50 (by decide +kernel) ?_
            refine ln_sub hx hb (by omega) dX0_worthOf_52 ?_
            refine lv_bipush (v := (nI 52)) hx hb dX0_worthOf_53 (by decide +kernel) ?_
            refine ln_add hx hb dX0_worthOf_55 ?_
            exact W.iret (v := (nI ((x - 48) + 52))) hx hb hr (fun t ht hW => ⟨(congrArg (fun z => Outcome.returned (some (Value.int z))) (show (nI ((x - 48) + 52)) = (wV k x) from wV_is (by unfold wN; (repeat' split) <;> omega) (by omega))), ht⟩) (fun q h => nomatch h) dX0_worthOf_56
      · refine lv_iload_n hx hb dX0_worthOf_29 rfl (lv_at hl 1 rfl) ?_
        refine lv_bipush (v := (nI 97)) hx hb dX0_worthOf_30 (by decide +kernel) ?_
        refine ln_sub hx hb (by omega) dX0_worthOf_32 ?_
        refine lv_bipush (v := (nI 26)) hx hb dX0_worthOf_33 (by decide +kernel) ?_
        refine ln_add hx hb dX0_worthOf_35 ?_
        exact W.iret (v := (nI ((x - 97) + 26))) hx hb hr (fun t ht hW => ⟨(congrArg (fun z => Outcome.returned (some (Value.int z))) (show (nI ((x - 97) + 26)) = (wV k x) from wV_is (by unfold wN; (repeat' split) <;> omega) (by omega))), ht⟩) (fun q h => nomatch h) dX0_worthOf_36
  · refine lv_iload_n hx hb dX0_worthOf_6 rfl (lv_at hl 1 rfl) ?_
    refine lv_bipush (v := (nI 90)) hx hb dX0_worthOf_7 (by decide +kernel) ?_
    refine ln_icmp_gt (tgt := 17) hx hb ⟨by omega, by omega⟩ dX0_worthOf_9 (by decide) (fun c_9 => ?_) (fun c_9 => ?_)
    · refine lv_iload_n hx hb dX0_worthOf_17 rfl (lv_at hl 1 rfl) ?_
      refine lv_bipush (v := (nI 97)) hx hb dX0_worthOf_18 (by decide +kernel) ?_
      refine ln_icmp_lt (tgt := 37) hx hb ⟨by omega, by omega⟩ dX0_worthOf_20 (by decide) (fun c_20 => ?_) (fun c_20 => ?_)
      · refine lv_iload_n hx hb dX0_worthOf_37 rfl (lv_at hl 1 rfl) ?_
        refine lv_bipush (v := (nI 48)) hx hb dX0_worthOf_38 (by decide +kernel) ?_
        refine ln_icmp_lt (tgt := 57) hx hb ⟨by omega, by omega⟩ dX0_worthOf_40 (by decide) (fun c_40 => ?_) (fun c_40 => ?_)
        · refine lv_iload_n hx hb dX0_worthOf_57 rfl (lv_at hl 1 rfl) ?_
          refine lv_aload_n hx hb dX0_worthOf_58 rfl (lv_at hl 0 rfl) ?_
          refine va_getE hx hb hG.1 (show _ < KN.length from hk) hS hown (q := FK[0]) (List.mem_of_getElem? (i := 0) rfl) (hts _ (List.mem_of_getElem? (i := 1) rfl)) (fun _ h9 => h9) dX0_worthOf_59 ?_
          rw [show (FK[0]).2.2.2.getD k 0 = nI (kS k) from k_f0 _ (hk)]
          refine ln_icmp_ne (tgt := 68) hx hb ⟨by omega, by omega⟩ dX0_worthOf_62 (by decide) (fun c_62 => ?_) (fun c_62 => ?_)
          · refine lv_iload_n hx hb dX0_worthOf_68 rfl (lv_at hl 1 rfl) ?_
            refine lv_aload_n hx hb dX0_worthOf_69 rfl (lv_at hl 0 rfl) ?_
            refine va_getE hx hb hG.1 (show _ < KN.length from hk) hS hown (q := FK[1]) (List.mem_of_getElem? (i := 1) rfl) (hts _ (List.mem_of_getElem? (i := 2) rfl)) (fun _ h9 => h9) dX0_worthOf_70 ?_
            rw [show (FK[1]).2.2.2.getD k 0 = nI (kL k) from k_f1 _ (hk)]
            refine ln_icmp_ne (tgt := 81) hx hb ⟨by omega, by omega⟩ dX0_worthOf_73 (by decide) (fun c_73 => ?_) (fun c_73 => ?_)
            · refine lv_iconst (v := (-1)) hx hb dX0_worthOf_81 (by decide +kernel) ?_
              exact W.iret (v := (-1)) hx hb hr (fun t ht hW => ⟨(congrArg (fun z => Outcome.returned (some (Value.int z))) (show (-1) = (wV k x) from wV_m1 (by unfold wN; (repeat' split) <;> omega))), ht⟩) (fun q h => nomatch h) dX0_worthOf_82
            · refine lv_bipush (v := (nI 63)) hx hb dX0_worthOf_76 (by decide +kernel) ?_
              refine lv_goto (tgt := 82) hx hb dX0_worthOf_78 (by decide) ?_
              exact W.iret (v := (nI 63)) hx hb hr (fun t ht hW => ⟨(congrArg (fun z => Outcome.returned (some (Value.int z))) (show (nI 63) = (wV k x) from wV_is (by unfold wN; (repeat' split) <;> omega) (by omega))), ht⟩) (fun q h => nomatch h) dX0_worthOf_82
          · refine lv_bipush (v := (nI 62)) hx hb dX0_worthOf_65 (by decide +kernel) ?_
            exact W.iret (v := (nI 62)) hx hb hr (fun t ht hW => ⟨(congrArg (fun z => Outcome.returned (some (Value.int z))) (show (nI 62) = (wV k x) from wV_is (by unfold wN; (repeat' split) <;> omega) (by omega))), ht⟩) (fun q h => nomatch h) dX0_worthOf_67
        · refine lv_iload_n hx hb dX0_worthOf_43 rfl (lv_at hl 1 rfl) ?_
          refine lv_bipush (v := (nI 57)) hx hb dX0_worthOf_44 (by decide +kernel) ?_
          refine ln_icmp_gt (tgt := 57) hx hb ⟨by omega, by omega⟩ dX0_worthOf_46 (by decide) (fun c_46 => ?_) (fun c_46 => ?_)
          · refine lv_iload_n hx hb dX0_worthOf_57 rfl (lv_at hl 1 rfl) ?_
            refine lv_aload_n hx hb dX0_worthOf_58 rfl (lv_at hl 0 rfl) ?_
            refine va_getE hx hb hG.1 (show _ < KN.length from hk) hS hown (q := FK[0]) (List.mem_of_getElem? (i := 0) rfl) (hts _ (List.mem_of_getElem? (i := 1) rfl)) (fun _ h9 => h9) dX0_worthOf_59 ?_
            rw [show (FK[0]).2.2.2.getD k 0 = nI (kS k) from k_f0 _ (hk)]
            refine ln_icmp_ne (tgt := 68) hx hb ⟨by omega, by omega⟩ dX0_worthOf_62 (by decide) (fun c_62 => ?_) (fun c_62 => ?_)
            · refine lv_iload_n hx hb dX0_worthOf_68 rfl (lv_at hl 1 rfl) ?_
              refine lv_aload_n hx hb dX0_worthOf_69 rfl (lv_at hl 0 rfl) ?_
              refine va_getE hx hb hG.1 (show _ < KN.length from hk) hS hown (q := FK[1]) (List.mem_of_getElem? (i := 1) rfl) (hts _ (List.mem_of_getElem? (i := 2) rfl)) (fun _ h9 => h9) dX0_worthOf_70 ?_
              rw [show (FK[1]).2.2.2.getD k 0 = nI (kL k) from k_f1 _ (hk)]
              refine ln_icmp_ne (tgt := 81) hx hb ⟨by omega, by omega⟩ dX0_worthOf_73 (by decide) (fun c_73 => ?_) (fun c_73 => ?_)
              · refine lv_iconst (v := (-1)) hx hb dX0_worthOf_81 (by decide +kernel) ?_
                exact W.iret (v := (-1)) hx hb hr (fun t ht hW => ⟨(congrArg (fun z => Outcome.returned (some (Value.int z))) (show (-1) = (wV k x) from wV_m1 (by unfold wN; (repeat' split) <;> omega))), ht⟩) (fun q h => nomatch h) dX0_worthOf_82
              · refine lv_bipush (v := (nI 63)) hx hb dX0_worthOf_76 (by decide +kernel) ?_
                refine lv_goto (tgt := 82) hx hb dX0_worthOf_78 (by decide) ?_
                exact W.iret (v := (nI 63)) hx hb hr (fun t ht hW => ⟨(congrArg (fun z => Outcome.returned (some (Value.int z))) (show (nI 63) = (wV k x) from wV_is (by unfold wN; (repeat' split) <;> omega) (by omega))), ht⟩) (fun q h => nomatch h) dX0_worthOf_82
            · refine lv_bipush (v := (nI 62)) hx hb dX0_worthOf_65 (by decide +kernel) ?_
              exact W.iret (v := (nI 62)) hx hb hr (fun t ht hW => ⟨(congrArg (fun z => Outcome.returned (some (Value.int z))) (show (nI 62) = (wV k x) from wV_is (by unfold wN; (repeat' split) <;> omega) (by omega))), ht⟩) (fun q h => nomatch h) dX0_worthOf_67
          · refine lv_iload_n hx hb dX0_worthOf_49 rfl (lv_at hl 1 rfl) ?_
            refine lv_bipush (v := (nI 48)) hx hb dX0_worthOf_50 (by decide +kernel) ?_
            refine ln_sub hx hb (by omega) dX0_worthOf_52 ?_
            refine lv_bipush (v := (nI 52)) hx hb dX0_worthOf_53 (by decide +kernel) ?_
            refine ln_add hx hb dX0_worthOf_55 ?_
            exact W.iret (v := (nI ((x - 48) + 52))) hx hb hr (fun t ht hW => ⟨(congrArg (fun z => Outcome.returned (some (Value.int z))) (show (nI ((x - 48) + 52)) = (wV k x) from wV_is (by unfold wN; (repeat' split) <;> omega) (by omega))), ht⟩) (fun q h => nomatch h) dX0_worthOf_56
      · refine lv_iload_n hx hb dX0_worthOf_23 rfl (lv_at hl 1 rfl) ?_
        refine lv_bipush (v := (nI 122)) hx hb dX0_worthOf_24 (by decide +kernel) ?_
        refine ln_icmp_gt (tgt := 37) hx hb ⟨by omega, by omega⟩ dX0_worthOf_26 (by decide) (fun c_26 => ?_) (fun c_26 => ?_)
        · refine lv_iload_n hx hb dX0_worthOf_37 rfl (lv_at hl 1 rfl) ?_
          refine lv_bipush (v := (nI 48)) hx hb dX0_worthOf_38 (by decide +kernel) ?_
          refine ln_icmp_lt (tgt := 57) hx hb ⟨by omega, by omega⟩ dX0_worthOf_40 (by decide) (fun c_40 => ?_) (fun c_40 => ?_)
          · refine lv_iload_n hx hb dX0_worthOf_57 rfl (lv_at hl 1 rfl) ?_
            refine lv_aload_n hx hb dX0_worthOf_58 rfl (lv_at hl 0 rfl) ?_
            refine va_getE hx hb hG.1 (show _ < KN.length from hk) hS hown (q := FK[0]) (List.mem_of_getElem? (i := 0) rfl) (hts _ (List.mem_of_getElem? (i := 1) rfl)) (fun _ h9 => h9) dX0_worthOf_59 ?_
            rw [show (FK[0]).2.2.2.getD k 0 = nI (kS k) from k_f0 _ (hk)]
            refine ln_icmp_ne (tgt := 68) hx hb ⟨by omega, by omega⟩ dX0_worthOf_62 (by decide) (fun c_62 => ?_) (fun c_62 => ?_)
            · refine lv_iload_n hx hb dX0_worthOf_68 rfl (lv_at hl 1 rfl) ?_
              refine lv_aload_n hx hb dX0_worthOf_69 rfl (lv_at hl 0 rfl) ?_
              refine va_getE hx hb hG.1 (show _ < KN.length from hk) hS hown (q := FK[1]) (List.mem_of_getElem? (i := 1) rfl) (hts _ (List.mem_of_getElem? (i := 2) rfl)) (fun _ h9 => h9) dX0_worthOf_70 ?_
              rw [show (FK[1]).2.2.2.getD k 0 = nI (kL k) from k_f1 _ (hk)]
              refine ln_icmp_ne (tgt := 81) hx hb ⟨by omega, by omega⟩ dX0_worthOf_73 (by decide) (fun c_73 => ?_) (fun c_73 => ?_)
              · refine lv_iconst (v := (-1)) hx hb dX0_worthOf_81 (by decide +kernel) ?_
                exact W.iret (v := (-1)) hx hb hr (fun t ht hW => ⟨(congrArg (fun z => Outcome.returned (some (Value.int z))) (show (-1) = (wV k x) from wV_m1 (by unfold wN; (repeat' split) <;> omega))), ht⟩) (fun q h => nomatch h) dX0_worthOf_82
              · refine lv_bipush (v := (nI 63)) hx hb dX0_worthOf_76 (by decide +kernel) ?_
                refine lv_goto (tgt := 82) hx hb dX0_worthOf_78 (by decide) ?_
                exact W.iret (v := (nI 63)) hx hb hr (fun t ht hW => ⟨(congrArg (fun z => Outcome.returned (some (Value.int z))) (show (nI 63) = (wV k x) from wV_is (by unfold wN; (repeat' split) <;> omega) (by omega))), ht⟩) (fun q h => nomatch h) dX0_worthOf_82
            · refine lv_bipush (v := (nI 62)) hx hb dX0_worthOf_65 (by decide +kernel) ?_
              exact W.iret (v := (nI 62)) hx hb hr (fun t ht hW => ⟨(congrArg (fun z => Outcome.returned (some (Value.int z))) (show (nI 62) = (wV k x) from wV_is (by unfold wN; (repeat' split) <;> omega) (by omega))), ht⟩) (fun q h => nomatch h) dX0_worthOf_67
          · refine lv_iload_n hx hb dX0_worthOf_43 rfl (lv_at hl 1 rfl) ?_
            refine lv_bipush (v := (nI 57)) hx hb dX0_worthOf_44 (by decide +kernel) ?_
            refine ln_icmp_gt (tgt := 57) hx hb ⟨by omega, by omega⟩ dX0_worthOf_46 (by decide) (fun c_46 => ?_) (fun c_46 => ?_)
            · refine lv_iload_n hx hb dX0_worthOf_57 rfl (lv_at hl 1 rfl) ?_
              refine lv_aload_n hx hb dX0_worthOf_58 rfl (lv_at hl 0 rfl) ?_
              refine va_getE hx hb hG.1 (show _ < KN.length from hk) hS hown (q := FK[0]) (List.mem_of_getElem? (i := 0) rfl) (hts _ (List.mem_of_getElem? (i := 1) rfl)) (fun _ h9 => h9) dX0_worthOf_59 ?_
              rw [show (FK[0]).2.2.2.getD k 0 = nI (kS k) from k_f0 _ (hk)]
              refine ln_icmp_ne (tgt := 68) hx hb ⟨by omega, by omega⟩ dX0_worthOf_62 (by decide) (fun c_62 => ?_) (fun c_62 => ?_)
              · refine lv_iload_n hx hb dX0_worthOf_68 rfl (lv_at hl 1 rfl) ?_
                refine lv_aload_n hx hb dX0_worthOf_69 rfl (lv_at hl 0 rfl) ?_
                refine va_getE hx hb hG.1 (show _ < KN.length from hk) hS hown (q := FK[1]) (List.mem_of_getElem? (i := 1) rfl) (hts _ (List.mem_of_getElem? (i := 2) rfl)) (fun _ h9 => h9) dX0_worthOf_70 ?_
                rw [show (FK[1]).2.2.2.getD k 0 = nI (kL k) from k_f1 _ (hk)]
                refine ln_icmp_ne (tgt := 81) hx hb ⟨by omega, by omega⟩ dX0_worthOf_73 (by decide) (fun c_73 => ?_) (fun c_73 => ?_)
                · refine lv_iconst (v := (-1)) hx hb dX0_worthOf_81 (by decide +kernel) ?_
                  exact W.iret (v := (-1)) hx hb hr (fun t ht hW => ⟨(congrArg (fun z => Outcome.returned (some (Value.int z))) (show (-1) = (wV k x) from wV_m1 (by unfold wN; (repeat' split) <;> omega))), ht⟩) (fun q h => nomatch h) dX0_worthOf_82
                · refine lv_bipush (v := (nI 63)) hx hb dX0_worthOf_76 (by decide +kernel) ?_
                  refine lv_goto (tgt := 82) hx hb dX0_worthOf_78 (by decide) ?_
                  exact W.iret (v := (nI 63)) hx hb hr (fun t ht hW => ⟨(congrArg (fun z => Outcome.returned (some (Value.int z))) (show (nI 63) = (wV k x) from wV_is (by unfold wN; (repeat' split) <;> omega) (by omega))), ht⟩) (fun q h => nomatch h) dX0_worthOf_82
              · refine lv_bipush (v := (nI 62)) hx hb dX0_worthOf_65 (by decide +kernel) ?_
                exact W.iret (v := (nI 62)) hx hb hr (fun t ht hW => ⟨(congrArg (fun z => Outcome.returned (some (Value.int z))) (show (nI 62) = (wV k x) from wV_is (by unfold wN; (repeat' split) <;> omega) (by omega))), ht⟩) (fun q h => nomatch h) dX0_worthOf_67
            · refine lv_iload_n hx hb dX0_worthOf_49 rfl (lv_at hl 1 rfl) ?_
              refine lv_bipush (v := (nI 48)) hx hb dX0_worthOf_50 (by decide +kernel) ?_
              refine ln_sub hx hb (by omega) dX0_worthOf_52 ?_
              refine lv_bipush (v := (nI 52)) hx hb dX0_worthOf_53 (by decide +kernel) ?_
              refine ln_add hx hb dX0_worthOf_55 ?_
              exact W.iret (v := (nI ((x - 48) + 52))) hx hb hr (fun t ht hW => ⟨(congrArg (fun z => Outcome.returned (some (Value.int z))) (show (nI ((x - 48) + 52)) = (wV k x) from wV_is (by unfold wN; (repeat' split) <;> omega) (by omega))), ht⟩) (fun q h => nomatch h) dX0_worthOf_56
        · refine lv_iload_n hx hb dX0_worthOf_29 rfl (lv_at hl 1 rfl) ?_
          refine lv_bipush (v := (nI 97)) hx hb dX0_worthOf_30 (by decide +kernel) ?_
          refine ln_sub hx hb (by omega) dX0_worthOf_32 ?_
          refine lv_bipush (v := (nI 26)) hx hb dX0_worthOf_33 (by decide +kernel) ?_
          refine ln_add hx hb dX0_worthOf_35 ?_
          exact W.iret (v := (nI ((x - 97) + 26))) hx hb hr (fun t ht hW => ⟨(congrArg (fun z => Outcome.returned (some (Value.int z))) (show (nI ((x - 97) + 26)) = (wV k x) from wV_is (by unfold wN; (repeat' split) <;> omega) (by omega))), ht⟩) (fun q h => nomatch h) dX0_worthOf_36
    · refine lv_iload_n hx hb dX0_worthOf_12 rfl (lv_at hl 1 rfl) ?_
      refine lv_bipush (v := (nI 65)) hx hb dX0_worthOf_13 (by decide +kernel) ?_
      refine ln_sub hx hb (by omega) dX0_worthOf_15 ?_
      exact W.iret (v := (nI (x - 65))) hx hb hr (fun t ht hW => ⟨(congrArg (fun z => Outcome.returned (some (Value.int z))) (show (nI (x - 65)) = (wV k x) from wV_is (by unfold wN; (repeat' split) <;> omega) (by omega))), ht⟩) (fun q h => nomatch h) dX0_worthOf_16
set_option maxHeartbeats 4000000 in
set_option maxRecDepth 100000 in
/-- whether a sign is a letter -/
theorem c_X0_isLetter (l : Launch) (D : va_G) (T : Nat → ClassId) (g : Nat → Nat) (k : Nat) (x : Nat) (hk : k < 3) (hx9 : x < 256) : RO l yX0_isLetter wsX0_isLetter ({ frames := 1, cells := 0, slots := 0, locals := 21 } : Room) D T g [.ref (g k), .int (nI x)] [] (.int (bI (isL k x))) := by
  refine Met.ofW (cc := cX0_isLetter) (maxL := 2) (ret := (some .boolean)) (by decide) rfl ?_
  intro p e s m args below meth c s₁ B hml hv
  obtain ⟨rfl, hP, hK, hG⟩ := hv
  have hx := B.exec
  have hb := B.bytes
  have hr := B.returns
  have hts := atoms_spec (ws := wsX0_isLetter) B.pre
  have hown : s.vm.findClass RX0 = some m.cls := findClass_of_methodNamed B.named
  have hlocks := B.notSynchronized
  have hS : va_S (fun _ => False) s.heap s.heap [] := va_S.rf
  have hl := lv_entry ([.ref (g k), .int (nI x)]) (n := 2) (Nat.le_of_ble_eq_true rfl)
  rw [lg_entry_eq]
  generalize (lg_sl ([.ref (g k), .int (nI x)]) ++ List.replicate (2 - (lg_sl ([.ref (g k), .int (nI x)])).length) Slot.unset).toArray = ls at hl ⊢
  have hl : lv_has ls 2 [(0, .ref (g k)), (1, .int (nI x))] := hl
  refine lv_aload_n hx hb dX0_isLetter_0 rfl (lv_at hl 0 rfl) ?_
  refine lv_iload_n hx hb dX0_isLetter_1 rfl (lv_at hl 1 rfl) ?_
  refine ro_V (As := [.int (nI x)]) (rest := []) (wc := []) (r := .int (wV k x)) ⟨hx, hb, hml, hown, hts⟩ (c_X0_worthOf l D T g k x hk hx9) (cwV 1 hts gX0_isLetter_X0_worthOf rfl rfl rfl (by decide +kernel) ⟨Nat.le_of_ble_eq_true rfl, Nat.le_of_ble_eq_true rfl⟩) (va_recvE hG.1 (show _ < KN.length from hk) hS) hP hK hG hS [] rfl ⟨Nat.zero_le _, Nat.zero_le _⟩ rfl hl.1 (Nat.le_of_ble_eq_true rfl) dX0_isLetter_2 rfl ?_
  refine lv_if_lt (tgt := 12) hx hb dX0_isLetter_5 (by decide) (fun c_5 => ?_) (fun c_5 => ?_)
  · refine lv_iconst (v := (nI 0)) hx hb dX0_isLetter_12 (by decide +kernel) ?_
    exact W.zret (v := (nI 0)) (ty := .boolean) hx hb hr (rfl) (fun t ht hW => ⟨(congrArg (fun z => Outcome.returned (some (Value.int z))) (show (nI 0) = (bI (isL k x)) from bI_f (show isL k x = false from decide_eq_false (wV_neg.mp c_5)))), ht⟩) (fun q h => nomatch h) dX0_isLetter_13
  · refine lv_iconst (v := (nI 1)) hx hb dX0_isLetter_8 (by decide +kernel) ?_
    refine lv_goto (tgt := 13) hx hb dX0_isLetter_9 (by decide) ?_
    exact W.zret (v := (nI 1)) (ty := .boolean) hx hb hr (rfl) (fun t ht hW => ⟨(congrArg (fun z => Outcome.returned (some (Value.int z))) (show (nI 1) = (bI (isL k x)) from bI_t (show isL k x = true from decide_eq_true (Decidable.not_not.mp (fun q => c_5 (wV_neg.mpr q)))))), ht⟩) (fun q h => nomatch h) dX0_isLetter_13
