def btN (n : Nat) (b : Nat → Nat) (p : Nat) : Nat → Nat
  | 0 => 0
  | d + 1 => 256 * btN n b p d + atN n b (p + d)
theorem bt_3 (n : Nat) (b : Nat → Nat) (p : Nat) : btN n b p 3 = atN n b p * 65536 + atN n b (p + 1) * 256 + atN n b (p + 2) := by
  show 256 * (256 * (256 * 0 + atN n b (p + 0)) + atN n b (p + 1)) + atN n b (p + 2) = _
  rw [Nat.add_zero]; omega
theorem bt_lt {n : Nat} {b : Nat → Nat} (hb : ∀ j, j < n → b j < 256) (p d : Nat) (hd : d ≤ 3) : btN n b p d < 16777216 := by
  have a := at_lt hb
  have a0 := a (p + 0); have a1 := a (p + 1); have a2 := a (p + 2)
  rcases (show d = 0 ∨ d = 1 ∨ d = 2 ∨ d = 3 by omega) with e | e | e | e <;> subst e
  · show 0 < 16777216; omega
  · show 256 * 0 + atN n b (p + 0) < 16777216; omega
  · show 256 * (256 * 0 + atN n b (p + 0)) + atN n b (p + 1) < 16777216; omega
  · show 256 * (256 * (256 * 0 + atN n b (p + 0)) + atN n b (p + 1)) + atN n b (p + 2) < 16777216; omega
theorem en_y {fl h d : Nat} (q : fl = 1 ∨ d ≤ h) : enN fl h d = d ∧ enN fl h (d + 1) = d + 1 := by
  unfold enN
  by_cases e : fl = 1
  · rw [if_pos e, if_pos e]; exact ⟨rfl, rfl⟩
  · rw [if_neg e, if_neg e, if_pos (by omega), if_pos (by omega)]; exact ⟨rfl, rfl⟩
theorem en_n {fl h d : Nat} (q : ¬ fl = 1) (q2 : h < d) : enN fl h (d + 1) = enN fl h d := by
  unfold enN
  rw [if_neg q, if_neg q, if_neg (by omega)]
  split <;> omega
theorem en_le {fl h d : Nat} (hh : h ≤ 3) (hd : d ≤ 4) : enN fl h d ≤ 4 := by unfold enN; (repeat' split) <;> omega
theorem en_0 (fl h : Nat) : enN fl h 0 = 0 := by unfold enN; (repeat' split) <;> omega
set_option maxHeartbeats 4000000 in
set_option maxRecDepth 100000 in
/-- makes what a kind writes -/
theorem c_X6_writes (l : Launch) (D : va_G) (T : Nat → ClassId) (g : Nat → Nat) (sz : Nat) (m0 : Nat) (mb : Nat) (ml : Nat) (mm : Nat) (mk : Nat) (many : Nat) (th : Int32) (fb : Nat → Int32) (fl : Nat → Int32) (fm : Nat → Int32) (i : Nat) (n : Nat) (b : Nat → Nat) (hi : i < 6) (hln : fl i = nI n) (hrw : RW fb i n b) (k : Nat) (hk : k < 3) (fl9 : Nat) (hfl : fl9 < 2) : MU l yX6_writes wsX6_writes ({ frames := 1, cells := 0, slots := 0, locals := 22 } : Room) D T g [.ref m0, .int (nI i), .int (nI k), .int (nI fl9)] [(m0, .inr (3, [.ref mb, .ref ml, .ref mm, .int (nI many), .int th, .ref mk])), (ml, .inl (T 0, 6, .inl fl)), (mb, .inl (T 0, 1920, .inl fb)), (mm, .inl (T 0, 600, .inl fm))] sz (fun u : Nat → Int32 => none) (fun u : Nat → Int32 => MD u (lnN k n fl9) (wrA k n b)) (fun u : Nat → Int32 => [(m0, .inr (3, [.ref mb, .ref ml, .ref mm, .int (nI (lnN k n fl9)), .int th, .ref mk])), (ml, .inl (T 0, 6, .inl fl)), (mb, .inl (T 0, 1920, .inl fb)), (mm, .inl (T 0, 600, .inl u))]) 0 0 := by
  refine Met.ofW (cc := cX6_writes) (maxL := 10) (ret := none) (by decide) rfl ?_
  intro p e s m args below meth c s₁ B hml hv
  obtain ⟨rfl, hsz, hP, hK, hD0, hG⟩ := hv
  have hx := B.exec
  have hb := B.bytes
  have hr := B.returns
  have hts := atoms_spec (ws := wsX6_writes) B.pre
  have hown : s.vm.findClass RX6 = some m.cls := findClass_of_methodNamed B.named
  have hlocks := B.notSynchronized
  have hi_X6 : ∀ w ∈ wsX60, w ∈ wsX6_writes := by decide +kernel
  subst hsz
  have hD := hD0.self (sz := s.heap.size)
  generalize hAe : va_A [(m0, .inr (3, [.ref mb, .ref ml, .ref mm, .int (nI many), .int th, .ref mk])), (ml, .inl (T 0, 6, .inl fl)), (mb, .inl (T 0, 1920, .inl fb)), (mm, .inl (T 0, 600, .inl fm))] s.heap.size = A at hD hG ⊢
  have hA : ∀ q : Nat, s.heap.size ≤ q → A q := fun q h => by rw [← hAe]; exact Or.inr h
  have hS : va_S A s.heap s.heap [] := va_S.rf
  have hP : va_P D cls [(m0, .inr (3, [.ref mb, .ref ml, .ref mm, .int (nI many), .int th, .ref mk])), (ml, .inl (T 0, 6, .inl fl)), (mb, .inl (T 0, 1920, .inl fb)), (mm, .inl (T 0, 600, .inl fm))] s.heap := hP
  have hl := lv_entry ([.ref m0, .int (nI i), .int (nI k), .int (nI fl9)]) (n := 10) (Nat.le_of_ble_eq_true rfl)
  rw [lg_entry_eq]
  generalize (lg_sl ([.ref m0, .int (nI i), .int (nI k), .int (nI fl9)]) ++ List.replicate (10 - (lg_sl ([.ref m0, .int (nI i), .int (nI k), .int (nI fl9)])).length) Slot.unset).toArray = ls at hl ⊢
  have hl : lv_has ls 10 [(0, .ref m0), (1, .int (nI i)), (2, .int (nI k)), (3, .int (nI fl9))] := hl
  have hn := hrw.1
  have hb0 : ∀ j, j < n → b j < 256 := fun j hj => (hrw.2 j hj).2
  refine lv_aload_n hx hb dX6_writes_0 rfl (lv_at hl 0 rfl) ?_
  refine lv_iconst (v := (nI 0)) hx hb dX6_writes_1 (by decide +kernel) ?_
  refine va_put (D := D) (ci := 3) (v := .int (nI 0)) (ty := .int) (C := RX6) (T := TX6) (N := 6) hx hb hts hi_X6 tyX6 tyX6_ok nmX6 hown hK hP hD hS 0 rfl rfl 3 (by decide) (hts _ (List.mem_of_getElem? (i := 1) rfl)) (fun _ h9 => h9) rfl (by decide +kernel) rfl rfl (Nat.le_of_ble_eq_true rfl) dX6_writes_2 (fun H locs hP hD hS => ?_)
  have hP : va_P D cls [(m0, .inr (3, [.ref mb, .ref ml, .ref mm, .int (nI 0), .int th, .ref mk])), (ml, .inl (T 0, 6, .inl fl)), (mb, .inl (T 0, 1920, .inl fb)), (mm, .inl (T 0, 600, .inl fm))] H := hP
  have hD : va_D A [(m0, .inr (3, [.ref mb, .ref ml, .ref mm, .int (nI 0), .int th, .ref mk])), (ml, .inl (T 0, 6, .inl fl)), (mb, .inl (T 0, 1920, .inl fb)), (mm, .inl (T 0, 600, .inl fm))] := hD
  refine lv_iconst (v := (nI 0)) hx hb dX6_writes_5 (by decide +kernel) ?_
  have e0 : 0 = lnS k (sgN (min (3 * 0) n) fl9) := by rw [Nat.mul_zero, Nat.zero_min]; show 0 = lnS k 0; unfold lnS; split <;> rfl
  rw [show nI 0 = nI (sgN (min (3 * 0) n) fl9) from by rw [Nat.mul_zero, Nat.zero_min]; rfl]
  refine lv_istore (lv' := [(4, .int (nI (sgN (min (3 * 0) n) fl9))), (0, .ref m0), (1, .int (nI i)), (2, .int (nI k)), (3, .int (nI fl9))]) hx hb dX6_writes_6 hl (by decide) rfl (fun ls hl => ?_)
  refine lv_iconst (v := (nI 0)) hx hb dX6_writes_8 (by decide +kernel) ?_
  refine lv_istore (lv' := [(5, .int (nI 0)), (4, .int (nI (sgN (min (3 * 0) n) fl9))), (0, .ref m0), (1, .int (nI i)), (2, .int (nI k)), (3, .int (nI fl9))]) hx hb dX6_writes_9 hl (by decide) rfl (fun ls hl => ?_)
  have K1 : ∀ (N9 : Nat) (q : Nat) (F : Nat → Int32), (3 * q ≤ n + 2) → (MD F (lnS k (sgN (min (3 * q) n) fl9)) (wrA k n b)) → n + 3 - 3 * q < N9 → ∀ (H : Heap) (locs : List Loc), va_P D cls [(m0, .inr (3, [.ref mb, .ref ml, .ref mm, .int (nI (lnS k (sgN (min (3 * q) n) fl9))), .int th, .ref mk])), (ml, .inl (T 0, 6, .inl fl)), (mb, .inl (T 0, 1920, .inl fb)), (mm, .inl (T 0, 600, .inl F))] H → va_D A [(m0, .inr (3, [.ref mb, .ref ml, .ref mm, .int (nI (lnS k (sgN (min (3 * q) n) fl9))), .int th, .ref mk])), (ml, .inl (T 0, 6, .inl fl)), (mb, .inl (T 0, 1920, .inl fb)), (mm, .inl (T 0, 600, .inl F))] → va_S A s.heap H locs → ∀ ls : Array Slot, lv_has ls 10 [(0, .ref m0), (1, .int (nI i)), (2, .int (nI k)), (3, .int (nI fl9)), (4, .int (nI (sgN (min (3 * q) n) fl9))), (5, .int (nI (3 * q)))] → W p l e (headSpec wsX6_writes ({ frames := 1, cells := 0, slots := 0, locals := 22 } : Room)).room s m ([.ref m0, .int (nI i), .int (nI k), .int (nI fl9)] : List Value).toArray below meth c H locs 0 0 (MQ below (QM D T A (fun u : Nat → Int32 => none) (fun u : Nat → Int32 => MD u (lnN k n fl9) (wrA k n b)) (fun u : Nat → Int32 => [(m0, .inr (3, [.ref mb, .ref ml, .ref mm, .int (nI (lnN k n fl9)), .int th, .ref mk])), (ml, .inl (T 0, 6, .inl fl)), (mb, .inl (T 0, 1920, .inl fb)), (mm, .inl (T 0, 600, .inl u))])) ([.ref m0, .int (nI i), .int (nI k), .int (nI fl9)] : List Value).toArray s 0 0 A) (F0 m 11 ls []) := by
    intro N9
    induction N9 with
    | zero => intro q F hq hF h9; exact absurd h9 (Nat.not_lt_zero _)
    | succ N9 ih_11 =>
      intro q F hq hF h9 H locs hP hD hS ls hl
      refine lv_iload hx hb dX6_writes_11 (lv_at hl 5 rfl) ?_
      refine lv_aload_n hx hb dX6_writes_13 rfl (lv_at hl 0 rfl) ?_
      refine va_get (D := D) (ci := 3) (v := .ref ml) (C := RX6) (T := TX6) (N := 6) hx hb hts hi_X6 hown hK hP 0 rfl rfl 1 (by decide) (hts _ (List.mem_of_getElem? (i := 2) rfl)) (fun _ h9 => h9) rfl dX6_writes_14 ?_
      refine lv_iload_n hx hb dX6_writes_17 rfl (lv_at hl 1 rfl) ?_
      refine ln_iald hx hb hK hP 1 0 rfl rfl ⟨by omega, by omega⟩ dX6_writes_18 ?_
      rw [show fl i = nI n from hln]
      refine ln_icmp_ge (tgt := 211) hx hb ⟨by omega, by omega⟩ dX6_writes_19 (by decide) (fun c_19 => ?_) (fun c_19 => ?_)
      · have e8 : sgN (min (3 * q) n) fl9 = sgN n fl9 := by rw [Nat.min_eq_right (by omega)]
        rw [e8] at hP hD hF
        have hP : va_P D cls [(m0, .inr (3, [.ref mb, .ref ml, .ref mm, .int (nI (lnN k n fl9)), .int th, .ref mk])), (ml, .inl (T 0, 6, .inl fl)), (mb, .inl (T 0, 1920, .inl fb)), (mm, .inl (T 0, 600, .inl F))] H := hP
        have hD : va_D A [(m0, .inr (3, [.ref mb, .ref ml, .ref mm, .int (nI (lnN k n fl9)), .int th, .ref mk])), (ml, .inl (T 0, 6, .inl fl)), (mb, .inl (T 0, 1920, .inl fb)), (mm, .inl (T 0, 600, .inl F))] := hD
        have hP9 := hP.sub (ws' := [(m0, .inr (3, [.ref mb, .ref ml, .ref mm, .int (nI (lnN k n fl9)), .int th, .ref mk])), (ml, .inl (T 0, 6, .inl fl)), (mb, .inl (T 0, 1920, .inl fb)), (mm, .inl (T 0, 600, .inl F))]) [0, 1, 2, 3] rfl
        have hD9 := hD.sub (ws' := [(m0, .inr (3, [.ref mb, .ref ml, .ref mm, .int (nI (lnN k n fl9)), .int th, .ref mk])), (ml, .inl (T 0, 6, .inl fl)), (mb, .inl (T 0, 1920, .inl fb)), (mm, .inl (T 0, 600, .inl F))]) [0, 1, 2, 3] (by decide) rfl
        exact W.vret hx hb hr (fun t ht hW => ⟨⟨F, rfl, hF, (by rw [ht]; exact hP9), va_K.moved hW.alike hK, hD9⟩, hS.F ht⟩) hS.2.2 dX6_writes_211
      · have hs4 : sgN (min (3 * q) n) fl9 = 4 * q := sg_min (by omega)
        rw [hs4] at hl hP hD hF
        have J2 : ∀ (h : Nat), (h = min (n - 3 * q) 3) → ∀ ls : Array Slot, lv_has ls 10 [(0, .ref m0), (1, .int (nI i)), (2, .int (nI k)), (3, .int (nI fl9)), (4, .int (nI (4 * q))), (5, .int (nI (3 * q)))] → W p l e (headSpec wsX6_writes ({ frames := 1, cells := 0, slots := 0, locals := 22 } : Room)).room s m ([.ref m0, .int (nI i), .int (nI k), .int (nI fl9)] : List Value).toArray below meth c H locs 0 0 (MQ below (QM D T A (fun u : Nat → Int32 => none) (fun u : Nat → Int32 => MD u (lnN k n fl9) (wrA k n b)) (fun u : Nat → Int32 => [(m0, .inr (3, [.ref mb, .ref ml, .ref mm, .int (nI (lnN k n fl9)), .int th, .ref mk])), (ml, .inl (T 0, 6, .inl fl)), (mb, .inl (T 0, 1920, .inl fb)), (mm, .inl (T 0, 600, .inl u))])) ([.ref m0, .int (nI i), .int (nI k), .int (nI fl9)] : List Value).toArray s 0 0 A) (F0 m 48 ls [.int (nI h)]) := by
          intro h hh ls hl
          refine lv_istore (lv' := [(6, .int (nI h)), (0, .ref m0), (1, .int (nI i)), (2, .int (nI k)), (3, .int (nI fl9)), (4, .int (nI (4 * q))), (5, .int (nI (3 * q)))]) hx hb dX6_writes_48 hl (by decide) rfl (fun ls hl => ?_)
          refine lv_iconst (v := (nI 0)) hx hb dX6_writes_50 (by decide +kernel) ?_
          refine lv_istore (lv' := [(7, .int (nI 0)), (6, .int (nI h)), (0, .ref m0), (1, .int (nI i)), (2, .int (nI k)), (3, .int (nI fl9)), (4, .int (nI (4 * q))), (5, .int (nI (3 * q)))]) hx hb dX6_writes_51 hl (by decide) rfl (fun ls hl => ?_)
          refine lv_iconst (v := (nI 0)) hx hb dX6_writes_53 (by decide +kernel) ?_
          refine lv_istore (lv' := [(8, .int (nI 0)), (7, .int (nI 0)), (6, .int (nI h)), (0, .ref m0), (1, .int (nI i)), (2, .int (nI k)), (3, .int (nI fl9)), (4, .int (nI (4 * q))), (5, .int (nI (3 * q)))]) hx hb dX6_writes_54 hl (by decide) rfl (fun ls hl => ?_)
          have K3 : ∀ (N9 : Nat) (d : Nat), (d ≤ 3) → 3 - d < N9 → ∀ ls : Array Slot, lv_has ls 10 [(0, .ref m0), (1, .int (nI i)), (2, .int (nI k)), (3, .int (nI fl9)), (4, .int (nI (4 * q))), (5, .int (nI (3 * q))), (6, .int (nI h)), (7, .int (nI (btN n b (3 * q) d))), (8, .int (nI d))] → W p l e (headSpec wsX6_writes ({ frames := 1, cells := 0, slots := 0, locals := 22 } : Room)).room s m ([.ref m0, .int (nI i), .int (nI k), .int (nI fl9)] : List Value).toArray below meth c H locs 0 0 (MQ below (QM D T A (fun u : Nat → Int32 => none) (fun u : Nat → Int32 => MD u (lnN k n fl9) (wrA k n b)) (fun u : Nat → Int32 => [(m0, .inr (3, [.ref mb, .ref ml, .ref mm, .int (nI (lnN k n fl9)), .int th, .ref mk])), (ml, .inl (T 0, 6, .inl fl)), (mb, .inl (T 0, 1920, .inl fb)), (mm, .inl (T 0, 600, .inl u))])) ([.ref m0, .int (nI i), .int (nI k), .int (nI fl9)] : List Value).toArray s 0 0 A) (F0 m 56 ls []) := by
            intro N9
            induction N9 with
            | zero => intro d hd h9; exact absurd h9 (Nat.not_lt_zero _)
            | succ N9 ih_56 =>
              intro d hd h9 ls hl
              refine lv_iload hx hb dX6_writes_56 (lv_at hl 8 rfl) ?_
              refine lv_iconst (v := (nI 3)) hx hb dX6_writes_58 (by decide +kernel) ?_
              refine ln_icmp_ge (tgt := 98) hx hb ⟨by omega, by omega⟩ dX6_writes_59 (by decide) (fun c_59 => ?_) (fun c_59 => ?_)
              · have e9 : d = 3 := by omega
                subst e9
                refine lv_iconst (v := (nI 0)) hx hb dX6_writes_98 (by decide +kernel) ?_
                have e00 : lnS k (4 * q + enN fl9 h 0) = lnS k (4 * q) := by rw [en_0]; rfl
                have e01 : nI (4 * q) = nI (4 * q + enN fl9 h 0) := by rw [en_0]; rfl
                rw [e01] at hl
                refine lv_istore (lv' := [(8, .int (nI 0)), (0, .ref m0), (1, .int (nI i)), (2, .int (nI k)), (3, .int (nI fl9)), (4, .int (nI (4 * q + enN fl9 h 0))), (5, .int (nI (3 * q))), (6, .int (nI h)), (7, .int (nI (btN n b (3 * q) 3)))]) hx hb dX6_writes_99 hl (by decide) rfl (fun ls hl => ?_)
                have K5 : ∀ (N9 : Nat) (d : Nat) (F1 : Nat → Int32), (d ≤ 4) → (MD F1 (lnS k (4 * q + enN fl9 h d)) (wrA k n b)) → 4 - d < N9 → ∀ (H : Heap) (locs : List Loc), va_P D cls [(m0, .inr (3, [.ref mb, .ref ml, .ref mm, .int (nI (lnS k (4 * q + enN fl9 h d))), .int th, .ref mk])), (ml, .inl (T 0, 6, .inl fl)), (mb, .inl (T 0, 1920, .inl fb)), (mm, .inl (T 0, 600, .inl F1))] H → va_D A [(m0, .inr (3, [.ref mb, .ref ml, .ref mm, .int (nI (lnS k (4 * q + enN fl9 h d))), .int th, .ref mk])), (ml, .inl (T 0, 6, .inl fl)), (mb, .inl (T 0, 1920, .inl fb)), (mm, .inl (T 0, 600, .inl F1))] → va_S A s.heap H locs → ∀ ls : Array Slot, lv_has ls 10 [(0, .ref m0), (1, .int (nI i)), (2, .int (nI k)), (3, .int (nI fl9)), (5, .int (nI (3 * q))), (6, .int (nI h)), (7, .int (nI (btN n b (3 * q) 3))), (4, .int (nI (4 * q + enN fl9 h d))), (8, .int (nI d))] → W p l e (headSpec wsX6_writes ({ frames := 1, cells := 0, slots := 0, locals := 22 } : Room)).room s m ([.ref m0, .int (nI i), .int (nI k), .int (nI fl9)] : List Value).toArray below meth c H locs 0 0 (MQ below (QM D T A (fun u : Nat → Int32 => none) (fun u : Nat → Int32 => MD u (lnN k n fl9) (wrA k n b)) (fun u : Nat → Int32 => [(m0, .inr (3, [.ref mb, .ref ml, .ref mm, .int (nI (lnN k n fl9)), .int th, .ref mk])), (ml, .inl (T 0, 6, .inl fl)), (mb, .inl (T 0, 1920, .inl fb)), (mm, .inl (T 0, 600, .inl u))])) ([.ref m0, .int (nI i), .int (nI k), .int (nI fl9)] : List Value).toArray s 0 0 A) (F0 m 101 ls []) := by
                  intro N9
                  induction N9 with
                  | zero => intro d F1 hd hF1 h9; exact absurd h9 (Nat.not_lt_zero _)
                  | succ N9 ih_101 =>
                    intro d F1 hd hF1 h9 H locs hP hD hS ls hl
                    refine lv_iload hx hb dX6_writes_101 (lv_at hl 8 rfl) ?_
                    refine lv_iconst (v := (nI 4)) hx hb dX6_writes_103 (by decide +kernel) ?_
                    refine ln_icmp_ge (tgt := 205) hx hb ⟨by omega, by omega⟩ dX6_writes_104 (by decide) (fun c_104 => ?_) (fun c_104 => ?_)
                    · have e9 : d = 4 := by omega
                      subst e9
                      have e8 : 4 * q + enN fl9 h 4 = sgN (min (3 * (q + 1)) n) fl9 := by rw [hh]; exact sg_nxt (by omega) hfl
                      rw [e8] at hl hP hD hF1
                      have hF3 := hF1
                      refine lv_iinc (v := (nI ((3 * q) + 3))) (lv' := [(5, .int (nI ((3 * q) + 3))), (0, .ref m0), (1, .int (nI i)), (2, .int (nI k)), (3, .int (nI fl9)), (6, .int (nI h)), (7, .int (nI (btN n b (3 * q) 3))), (4, .int (nI (sgN (min (3 * (q + 1)) n) fl9))), (8, .int (nI 4))]) hx hb dX6_writes_205 hl (k := 4) rfl (ni_inc3 _) (by decide) rfl (fun ls hl => ?_)
                      refine lv_goto (tgt := 11) hx hb dX6_writes_208 (by decide) ?_
                      exact ih_11 (q + 1) F1 (by omega) (hF3) (by omega) _ _ (hP.sub (ws' := [(m0, .inr (3, [.ref mb, .ref ml, .ref mm, .int (nI (lnS k (sgN (min (3 * (q + 1)) n) fl9))), .int th, .ref mk])), (ml, .inl (T 0, 6, .inl fl)), (mb, .inl (T 0, 1920, .inl fb)), (mm, .inl (T 0, 600, .inl F1))]) [0, 1, 2, 3] rfl) (hD.sub (ws' := [(m0, .inr (3, [.ref mb, .ref ml, .ref mm, .int (nI (lnS k (sgN (min (3 * (q + 1)) n) fl9))), .int th, .ref mk])), (ml, .inl (T 0, 6, .inl fl)), (mb, .inl (T 0, 1920, .inl fb)), (mm, .inl (T 0, 600, .inl F1))]) [0, 1, 2, 3] (by decide) rfl) hS ls (lv_sub hl [1, 2, 3, 4, 7, 0] rfl)
                    · refine lv_iload hx hb dX6_writes_107 (lv_at hl 8 rfl) ?_
                      refine lv_iload hx hb dX6_writes_109 (lv_at hl 5 rfl) ?_
                      refine ln_icmp_gt (tgt := 118) hx hb ⟨by omega, by omega⟩ dX6_writes_111 (by decide) (fun c_111 => ?_) (fun c_111 => ?_)
                      · refine lv_iconst (v := (nI 0)) hx hb dX6_writes_118 (by decide +kernel) ?_
                        refine lv_istore (lv' := [(9, .int (nI 0)), (0, .ref m0), (1, .int (nI i)), (2, .int (nI k)), (3, .int (nI fl9)), (5, .int (nI (3 * q))), (6, .int (nI h)), (7, .int (nI (btN n b (3 * q) 3))), (4, .int (nI (4 * q + enN fl9 h d))), (8, .int (nI d))]) hx hb dX6_writes_119 hl (by decide) rfl (fun ls hl => ?_)
                        refine lv_iload hx hb dX6_writes_121 (lv_at hl 0 rfl) ?_
                        refine ln_if_ne_f (tgt := 133) hx hb (by omega) (by decide) dX6_writes_123 (by decide) ?_
                        refine lv_iload_n hx hb dX6_writes_126 rfl (lv_at hl 4 rfl) ?_
                        refine ln_if_ne (tgt := 133) hx hb (by omega) dX6_writes_127 (by decide) (fun c_127 => ?_) (fun c_127 => ?_)
                        · have he1 := en_y (fl := fl9) (h := h) (d := d) (by omega)
                          rw [he1.1] at hl hP hD hF1
                          have hb8 : lnS k (4 * q + d) ≤ 438 := lnS_le (by omega)
                          have J8 : ∀ (P9 : Nat) (F2 : Nat → Int32), (wrA k n b P9 = sgA k n b (4 * q + d)) → (lnS k (4 * q + d + 1) = P9 + 1) → (P9 ≤ 440) → (MD F2 P9 (wrA k n b)) → ∀ (H : Heap) (locs : List Loc), va_P D cls [(m0, .inr (3, [.ref mb, .ref ml, .ref mm, .int (nI P9), .int th, .ref mk])), (ml, .inl (T 0, 6, .inl fl)), (mb, .inl (T 0, 1920, .inl fb)), (mm, .inl (T 0, 600, .inl F2))] H → va_D A [(m0, .inr (3, [.ref mb, .ref ml, .ref mm, .int (nI P9), .int th, .ref mk])), (ml, .inl (T 0, 6, .inl fl)), (mb, .inl (T 0, 1920, .inl fb)), (mm, .inl (T 0, 600, .inl F2))] → va_S A s.heap H locs → ∀ ls : Array Slot, lv_has ls 10 [(0, .ref m0), (1, .int (nI i)), (2, .int (nI k)), (3, .int (nI fl9)), (5, .int (nI (3 * q))), (6, .int (nI h)), (7, .int (nI (btN n b (3 * q) 3))), (4, .int (nI (4 * q + d))), (8, .int (nI d)), (9, .int (nI 0))] → W p l e (headSpec wsX6_writes ({ frames := 1, cells := 0, slots := 0, locals := 22 } : Room)).room s m ([.ref m0, .int (nI i), .int (nI k), .int (nI fl9)] : List Value).toArray below meth c H locs 0 0 (MQ below (QM D T A (fun u : Nat → Int32 => none) (fun u : Nat → Int32 => MD u (lnN k n fl9) (wrA k n b)) (fun u : Nat → Int32 => [(m0, .inr (3, [.ref mb, .ref ml, .ref mm, .int (nI (lnN k n fl9)), .int th, .ref mk])), (ml, .inl (T 0, 6, .inl fl)), (mb, .inl (T 0, 1920, .inl fb)), (mm, .inl (T 0, 600, .inl u))])) ([.ref m0, .int (nI i), .int (nI k), .int (nI fl9)] : List Value).toArray s 0 0 A) (F0 m 163 ls []) := by
                            intro P9 F2 hw hx3 hx4 hF2 H locs hP hD hS ls hl
                            refine lv_aload_n hx hb dX6_writes_163 rfl (lv_at hl 0 rfl) ?_
                            refine lv_iload hx hb dX6_writes_164 (lv_at hl 9 rfl) ?_
                            refine ln_if_eq_t (tgt := 191) hx hb (by omega) (by decide) dX6_writes_166 (by decide) ?_
                            refine lv_bipush (v := (nI 61)) hx hb dX6_writes_191 (by decide +kernel) ?_
                            rw [show (61 : Nat) = wrA k n b P9 from by rw [hw]; exact (sgA_n (by omega)).symm]
                            have hw9 := wrA_lt k n b P9
                            refine mu_V (As := [.int (nI (wrA k n b P9))]) (rest := []) (wc := [(m0, .inr (3, [.ref mb, .ref ml, .ref mm, .int (nI P9), .int th, .ref mk])), (mm, .inl (T 0, 600, .inl F2))]) (wr := [(ml, .inl (T 0, 6, .inl fl)), (mb, .inl (T 0, 1920, .inl fb))]) ⟨hx, hb, hml, hown, hts⟩ (c_X6_makes l D T g H.size m0 mb ml mm mk P9 th F2 (nI (wrA k n b P9)) (by omega)) (cwV 1 hts gX6_writes_X6_makes rfl rfl rfl (by decide +kernel) ⟨Nat.le_of_ble_eq_true rfl, Nat.le_of_ble_eq_true rfl⟩) (va_recv hK hP (ci := 3) (q0 := 0) rfl rfl) hP hD hK hG hS hA [0, 3] [1, 2] rfl (by decide) rfl (by decide) (by decide) ⟨Nat.le_of_ble_eq_true rfl, Nat.le_of_ble_eq_true rfl⟩ rfl hl.1 (Nat.le_of_ble_eq_true rfl) dX6_writes_193 rfl (fun u H locs hq9 hP hD hS => ?_)
                            have hP : va_P D cls [(ml, .inl (T 0, 6, .inl fl)), (mb, .inl (T 0, 1920, .inl fb)), (m0, .inr (3, [.ref mb, .ref ml, .ref mm, .int (nI (P9 + 1)), .int th, .ref mk])), (mm, .inl (T 0, 600, .inl (upd F2 P9 (nI (wrA k n b P9)))))] H := hP
                            have hD : va_D A [(ml, .inl (T 0, 6, .inl fl)), (mb, .inl (T 0, 1920, .inl fb)), (m0, .inr (3, [.ref mb, .ref ml, .ref mm, .int (nI (P9 + 1)), .int th, .ref mk])), (mm, .inl (T 0, 600, .inl (upd F2 P9 (nI (wrA k n b P9)))))] := hD
                            refine W.eq (g2 := F0 m 196 ls []) rfl ?_
                            refine lv_iinc (v := (nI ((4 * q + d) + 1))) (lv' := [(4, .int (nI ((4 * q + d) + 1))), (0, .ref m0), (1, .int (nI i)), (2, .int (nI k)), (3, .int (nI fl9)), (5, .int (nI (3 * q))), (6, .int (nI h)), (7, .int (nI (btN n b (3 * q) 3))), (8, .int (nI d)), (9, .int (nI 0))]) hx hb dX6_writes_196 hl (k := 7) rfl (ni_inc1 _) (by decide) rfl (fun ls hl => ?_)
                            have e5 : nI (4 * q + d + 1) = nI (4 * q + enN fl9 h (d + 1)) := by rw [he1.2]; rfl
                            rw [e5] at hl
                            have e6 : P9 + 1 = lnS k (4 * q + enN fl9 h (d + 1)) := by rw [he1.2, ← hx3]; rfl
                            have hF3 : MD (upd F2 P9 (nI (wrA k n b P9))) (lnS k (4 * q + enN fl9 h (d + 1))) (wrA k n b) := by rw [← e6]; exact MD_next hF2 (by omega) rfl (by omega)
                            refine lv_iinc (v := (nI (d + 1))) (lv' := [(8, .int (nI (d + 1))), (4, .int (nI (4 * q + enN fl9 h (d + 1)))), (0, .ref m0), (1, .int (nI i)), (2, .int (nI k)), (3, .int (nI fl9)), (5, .int (nI (3 * q))), (6, .int (nI h)), (7, .int (nI (btN n b (3 * q) 3))), (9, .int (nI 0))]) hx hb dX6_writes_199 hl (k := 8) rfl (ni_inc1 _) (by decide) rfl (fun ls hl => ?_)
                            refine lv_goto (tgt := 101) hx hb dX6_writes_202 (by decide) ?_
                            exact ih_101 (d + 1) (upd F2 P9 (nI (wrA k n b P9))) (by omega) (hF3) (by omega) _ _ (by rw [← e6]; exact hP.sub (ws' := [(m0, .inr (3, [.ref mb, .ref ml, .ref mm, .int (nI (P9 + 1)), .int th, .ref mk])), (ml, .inl (T 0, 6, .inl fl)), (mb, .inl (T 0, 1920, .inl fb)), (mm, .inl (T 0, 600, .inl (upd F2 P9 (nI (wrA k n b P9)))))]) [2, 0, 1, 3] rfl) (by rw [← e6]; exact hD.sub (ws' := [(m0, .inr (3, [.ref mb, .ref ml, .ref mm, .int (nI (P9 + 1)), .int th, .ref mk])), (ml, .inl (T 0, 6, .inl fl)), (mb, .inl (T 0, 1920, .inl fb)), (mm, .inl (T 0, 600, .inl (upd F2 P9 (nI (wrA k n b P9)))))]) [2, 0, 1, 3] (by decide) rfl) hS ls (lv_sub hl [2, 3, 4, 5, 6, 7, 8, 1, 0] rfl)
                          refine lv_iload_n hx hb dX6_writes_133 rfl (lv_at hl 3 rfl) ?_
                          refine lv_iconst (v := (nI 2)) hx hb dX6_writes_134 (by decide +kernel) ?_
                          refine ln_icmp_ne (tgt := 163) hx hb ⟨by omega, by omega⟩ dX6_writes_135 (by decide) (fun c_135 => ?_) (fun c_135 => ?_)
                          · exact J8 (lnS k (4 * q + d)) F1 (by first | exact lnS_ix (fun z => c_135 z.1) | exact lnS_ix (fun z => by omega) | exact c_135 ▸ lnS_ix2 (by omega) (by omega)) (by first | exact (lnS_on (fun z => c_135 z.1)).2 | exact (lnS_on (fun z => by omega)).2 | exact c_135 ▸ (lnS_brk (n := n) (b := b) (by omega) (by omega)).2.2.1) (by omega) (by first | exact hF1 | (have q9 := c_135 ▸ lnS_brk (n := n) (b := b) (s := 4 * q + d) (by omega) (by omega); exact MD_next (MD_next hF1 (by omega) q9.1.symm (by omega)) (by omega) q9.2.1.symm (by omega))) _ _ (hP.sub (ws' := [(m0, .inr (3, [.ref mb, .ref ml, .ref mm, .int (nI (lnS k (4 * q + d))), .int th, .ref mk])), (ml, .inl (T 0, 6, .inl fl)), (mb, .inl (T 0, 1920, .inl fb)), (mm, .inl (T 0, 600, .inl F1))]) [0, 1, 2, 3] rfl) (hD.sub (ws' := [(m0, .inr (3, [.ref mb, .ref ml, .ref mm, .int (nI (lnS k (4 * q + d))), .int th, .ref mk])), (ml, .inl (T 0, 6, .inl fl)), (mb, .inl (T 0, 1920, .inl fb)), (mm, .inl (T 0, 600, .inl F1))]) [0, 1, 2, 3] (by decide) rfl) hS ls (lv_sub hl [1, 2, 3, 4, 5, 6, 7, 8, 9, 0] rfl)
                          · refine lv_iload hx hb dX6_writes_138 (lv_at hl 8 rfl) ?_
                            refine ln_if_le (tgt := 163) hx hb (by omega) dX6_writes_140 (by decide) (fun c_140 => ?_) (fun c_140 => ?_)
                            · exact J8 (lnS k (4 * q + d)) F1 (by first | exact lnS_ix (fun z => c_135 z.1) | exact lnS_ix (fun z => by omega) | exact c_135 ▸ lnS_ix2 (by omega) (by omega)) (by first | exact (lnS_on (fun z => c_135 z.1)).2 | exact (lnS_on (fun z => by omega)).2 | exact c_135 ▸ (lnS_brk (n := n) (b := b) (by omega) (by omega)).2.2.1) (by omega) (by first | exact hF1 | (have q9 := c_135 ▸ lnS_brk (n := n) (b := b) (s := 4 * q + d) (by omega) (by omega); exact MD_next (MD_next hF1 (by omega) q9.1.symm (by omega)) (by omega) q9.2.1.symm (by omega))) _ _ (hP.sub (ws' := [(m0, .inr (3, [.ref mb, .ref ml, .ref mm, .int (nI (lnS k (4 * q + d))), .int th, .ref mk])), (ml, .inl (T 0, 6, .inl fl)), (mb, .inl (T 0, 1920, .inl fb)), (mm, .inl (T 0, 600, .inl F1))]) [0, 1, 2, 3] rfl) (hD.sub (ws' := [(m0, .inr (3, [.ref mb, .ref ml, .ref mm, .int (nI (lnS k (4 * q + d))), .int th, .ref mk])), (ml, .inl (T 0, 6, .inl fl)), (mb, .inl (T 0, 1920, .inl fb)), (mm, .inl (T 0, 600, .inl F1))]) [0, 1, 2, 3] (by decide) rfl) hS ls (lv_sub hl [1, 2, 3, 4, 5, 6, 7, 8, 9, 0] rfl)
                            · refine lv_iload hx hb dX6_writes_143 (lv_at hl 8 rfl) ?_
                              refine lv_bipush (v := (nI 76)) hx hb dX6_writes_145 (by decide +kernel) ?_
                              refine ln_rem hx hb ⟨by omega, by omega, by omega⟩ dX6_writes_147 ?_
                              refine ln_if_ne (tgt := 163) hx hb (by omega) dX6_writes_148 (by decide) (fun c_148 => ?_) (fun c_148 => ?_)
                              · exact J8 (lnS k (4 * q + d)) F1 (by first | exact lnS_ix (fun z => c_135 z.1) | exact lnS_ix (fun z => by omega) | exact c_135 ▸ lnS_ix2 (by omega) (by omega)) (by first | exact (lnS_on (fun z => c_135 z.1)).2 | exact (lnS_on (fun z => by omega)).2 | exact c_135 ▸ (lnS_brk (n := n) (b := b) (by omega) (by omega)).2.2.1) (by omega) (by first | exact hF1 | (have q9 := c_135 ▸ lnS_brk (n := n) (b := b) (s := 4 * q + d) (by omega) (by omega); exact MD_next (MD_next hF1 (by omega) q9.1.symm (by omega)) (by omega) q9.2.1.symm (by omega))) _ _ (hP.sub (ws' := [(m0, .inr (3, [.ref mb, .ref ml, .ref mm, .int (nI (lnS k (4 * q + d))), .int th, .ref mk])), (ml, .inl (T 0, 6, .inl fl)), (mb, .inl (T 0, 1920, .inl fb)), (mm, .inl (T 0, 600, .inl F1))]) [0, 1, 2, 3] rfl) (hD.sub (ws' := [(m0, .inr (3, [.ref mb, .ref ml, .ref mm, .int (nI (lnS k (4 * q + d))), .int th, .ref mk])), (ml, .inl (T 0, 6, .inl fl)), (mb, .inl (T 0, 1920, .inl fb)), (mm, .inl (T 0, 600, .inl F1))]) [0, 1, 2, 3] (by decide) rfl) hS ls (lv_sub hl [1, 2, 3, 4, 5, 6, 7, 8, 9, 0] rfl)
                              · refine lv_aload_n hx hb dX6_writes_151 rfl (lv_at hl 1 rfl) ?_
                                refine lv_bipush (v := (nI 13)) hx hb dX6_writes_152 (by decide +kernel) ?_
                                refine mu_V (As := [.int (nI 13)]) (rest := []) (wc := [(m0, .inr (3, [.ref mb, .ref ml, .ref mm, .int (nI (lnS k (4 * q + d))), .int th, .ref mk])), (mm, .inl (T 0, 600, .inl F1))]) (wr := [(ml, .inl (T 0, 6, .inl fl)), (mb, .inl (T 0, 1920, .inl fb))]) ⟨hx, hb, hml, hown, hts⟩ (c_X6_makes l D T g H.size m0 mb ml mm mk (lnS k (4 * q + d)) th F1 (nI 13) (by omega)) (cwV 1 hts gX6_writes_X6_makes rfl rfl rfl (by decide +kernel) ⟨Nat.le_of_ble_eq_true rfl, Nat.le_of_ble_eq_true rfl⟩) (va_recv hK hP (ci := 3) (q0 := 0) rfl rfl) hP hD hK hG hS hA [0, 3] [1, 2] rfl (by decide) rfl (by decide) (by decide) ⟨Nat.le_of_ble_eq_true rfl, Nat.le_of_ble_eq_true rfl⟩ rfl hl.1 (Nat.le_of_ble_eq_true rfl) dX6_writes_154 rfl (fun u H locs hq10 hP hD hS => ?_)
                                have hP : va_P D cls [(ml, .inl (T 0, 6, .inl fl)), (mb, .inl (T 0, 1920, .inl fb)), (m0, .inr (3, [.ref mb, .ref ml, .ref mm, .int (nI ((lnS k (4 * q + d)) + 1)), .int th, .ref mk])), (mm, .inl (T 0, 600, .inl (upd F1 (lnS k (4 * q + d)) (nI 13))))] H := hP
                                have hD : va_D A [(ml, .inl (T 0, 6, .inl fl)), (mb, .inl (T 0, 1920, .inl fb)), (m0, .inr (3, [.ref mb, .ref ml, .ref mm, .int (nI ((lnS k (4 * q + d)) + 1)), .int th, .ref mk])), (mm, .inl (T 0, 600, .inl (upd F1 (lnS k (4 * q + d)) (nI 13))))] := hD
                                refine W.eq (g2 := F0 m 157 ls []) rfl ?_
                                refine lv_aload_n hx hb dX6_writes_157 rfl (lv_at hl 1 rfl) ?_
                                refine lv_bipush (v := (nI 10)) hx hb dX6_writes_158 (by decide +kernel) ?_
                                refine mu_V (As := [.int (nI 10)]) (rest := []) (wc := [(m0, .inr (3, [.ref mb, .ref ml, .ref mm, .int (nI ((lnS k (4 * q + d)) + 1)), .int th, .ref mk])), (mm, .inl (T 0, 600, .inl (upd F1 (lnS k (4 * q + d)) (nI 13))))]) (wr := [(ml, .inl (T 0, 6, .inl fl)), (mb, .inl (T 0, 1920, .inl fb))]) ⟨hx, hb, hml, hown, hts⟩ (c_X6_makes l D T g H.size m0 mb ml mm mk ((lnS k (4 * q + d)) + 1) th (upd F1 (lnS k (4 * q + d)) (nI 13)) (nI 10) (by omega)) (cwV 1 hts gX6_writes_X6_makes rfl rfl rfl (by decide +kernel) ⟨Nat.le_of_ble_eq_true rfl, Nat.le_of_ble_eq_true rfl⟩) (va_recv hK hP (ci := 3) (q0 := 2) rfl rfl) hP hD hK hG hS hA [2, 3] [0, 1] rfl (by decide) rfl (by decide) (by decide) ⟨Nat.le_of_ble_eq_true rfl, Nat.le_of_ble_eq_true rfl⟩ rfl hl.1 (Nat.le_of_ble_eq_true rfl) dX6_writes_160 rfl (fun u H locs hq11 hP hD hS => ?_)
                                have hP : va_P D cls [(ml, .inl (T 0, 6, .inl fl)), (mb, .inl (T 0, 1920, .inl fb)), (m0, .inr (3, [.ref mb, .ref ml, .ref mm, .int (nI (((lnS k (4 * q + d)) + 1) + 1)), .int th, .ref mk])), (mm, .inl (T 0, 600, .inl (upd (upd F1 (lnS k (4 * q + d)) (nI 13)) ((lnS k (4 * q + d)) + 1) (nI 10))))] H := hP
                                have hD : va_D A [(ml, .inl (T 0, 6, .inl fl)), (mb, .inl (T 0, 1920, .inl fb)), (m0, .inr (3, [.ref mb, .ref ml, .ref mm, .int (nI (((lnS k (4 * q + d)) + 1) + 1)), .int th, .ref mk])), (mm, .inl (T 0, 600, .inl (upd (upd F1 (lnS k (4 * q + d)) (nI 13)) ((lnS k (4 * q + d)) + 1) (nI 10))))] := hD
                                refine W.eq (g2 := F0 m 163 ls []) rfl ?_
                                exact J8 (((lnS k (4 * q + d)) + 1) + 1) (upd (upd F1 (lnS k (4 * q + d)) (nI 13)) ((lnS k (4 * q + d)) + 1) (nI 10)) (by first | exact lnS_ix (fun z => c_135 z.1) | exact lnS_ix (fun z => by omega) | exact c_135 ▸ lnS_ix2 (by omega) (by omega)) (by first | exact (lnS_on (fun z => c_135 z.1)).2 | exact (lnS_on (fun z => by omega)).2 | exact c_135 ▸ (lnS_brk (n := n) (b := b) (by omega) (by omega)).2.2.1) (by omega) (by first | exact hF1 | (have q9 := c_135 ▸ lnS_brk (n := n) (b := b) (s := 4 * q + d) (by omega) (by omega); exact MD_next (MD_next hF1 (by omega) q9.1.symm (by omega)) (by omega) q9.2.1.symm (by omega))) _ _ (hP.sub (ws' := [(m0, .inr (3, [.ref mb, .ref ml, .ref mm, .int (nI (((lnS k (4 * q + d)) + 1) + 1)), .int th, .ref mk])), (ml, .inl (T 0, 6, .inl fl)), (mb, .inl (T 0, 1920, .inl fb)), (mm, .inl (T 0, 600, .inl (upd (upd F1 (lnS k (4 * q + d)) (nI 13)) ((lnS k (4 * q + d)) + 1) (nI 10))))]) [2, 0, 1, 3] rfl) (hD.sub (ws' := [(m0, .inr (3, [.ref mb, .ref ml, .ref mm, .int (nI (((lnS k (4 * q + d)) + 1) + 1)), .int th, .ref mk])), (ml, .inl (T 0, 6, .inl fl)), (mb, .inl (T 0, 1920, .inl fb)), (mm, .inl (T 0, 600, .inl (upd (upd F1 (lnS k (4 * q + d)) (nI 13)) ((lnS k (4 * q + d)) + 1) (nI 10))))]) [2, 0, 1, 3] (by decide) rfl) hS ls (lv_sub hl [1, 2, 3, 4, 5, 6, 7, 8, 9, 0] rfl)
                        · refine lv_goto (tgt := 199) hx hb dX6_writes_130 (by decide) ?_
                          have e7 := en_n (fl := fl9) (h := h) (d := d) (by omega) (by omega)
                          have e5 : nI (4 * q + enN fl9 h d) = nI (4 * q + enN fl9 h (d + 1)) := by rw [e7]
                          rw [e5] at hl
                          have hF3 : MD F1 (lnS k (4 * q + enN fl9 h (d + 1))) (wrA k n b) := by rw [e7]; exact hF1
                          refine lv_iinc (v := (nI (d + 1))) (lv' := [(8, .int (nI (d + 1))), (9, .int (nI 0)), (0, .ref m0), (1, .int (nI i)), (2, .int (nI k)), (3, .int (nI fl9)), (5, .int (nI (3 * q))), (6, .int (nI h)), (7, .int (nI (btN n b (3 * q) 3))), (4, .int (nI (4 * q + enN fl9 h (d + 1))))]) hx hb dX6_writes_199 hl (k := 9) rfl (ni_inc1 _) (by decide) rfl (fun ls hl => ?_)
                          refine lv_goto (tgt := 101) hx hb dX6_writes_202 (by decide) ?_
                          exact ih_101 (d + 1) F1 (by omega) (hF3) (by omega) _ _ (by rw [e7]; exact hP.sub (ws' := [(m0, .inr (3, [.ref mb, .ref ml, .ref mm, .int (nI (lnS k (4 * q + enN fl9 h d))), .int th, .ref mk])), (ml, .inl (T 0, 6, .inl fl)), (mb, .inl (T 0, 1920, .inl fb)), (mm, .inl (T 0, 600, .inl F1))]) [0, 1, 2, 3] rfl) (by rw [e7]; exact hD.sub (ws' := [(m0, .inr (3, [.ref mb, .ref ml, .ref mm, .int (nI (lnS k (4 * q + enN fl9 h d))), .int th, .ref mk])), (ml, .inl (T 0, 6, .inl fl)), (mb, .inl (T 0, 1920, .inl fb)), (mm, .inl (T 0, 600, .inl F1))]) [0, 1, 2, 3] (by decide) rfl) hS ls (lv_sub hl [2, 3, 4, 5, 6, 7, 8, 9, 0] rfl)
                      · refine lv_iconst (v := (nI 1)) hx hb dX6_writes_114 (by decide +kernel) ?_
                        refine lv_goto (tgt := 119) hx hb dX6_writes_115 (by decide) ?_
                        refine lv_istore (lv' := [(9, .int (nI 1)), (0, .ref m0), (1, .int (nI i)), (2, .int (nI k)), (3, .int (nI fl9)), (5, .int (nI (3 * q))), (6, .int (nI h)), (7, .int (nI (btN n b (3 * q) 3))), (4, .int (nI (4 * q + enN fl9 h d))), (8, .int (nI d))]) hx hb dX6_writes_119 hl (by decide) rfl (fun ls hl => ?_)
                        refine lv_iload hx hb dX6_writes_121 (lv_at hl 0 rfl) ?_
                        refine ln_if_ne_t (tgt := 133) hx hb (by omega) (by decide) dX6_writes_123 (by decide) ?_
                        have he1 := en_y (fl := fl9) (h := h) (d := d) (by omega)
                        rw [he1.1] at hl hP hD hF1
                        have hb8 : lnS k (4 * q + d) ≤ 438 := lnS_le (by omega)
                        have J12 : ∀ (P9 : Nat) (F2 : Nat → Int32), (wrA k n b P9 = sgA k n b (4 * q + d)) → (lnS k (4 * q + d + 1) = P9 + 1) → (P9 ≤ 440) → (MD F2 P9 (wrA k n b)) → ∀ (H : Heap) (locs : List Loc), va_P D cls [(m0, .inr (3, [.ref mb, .ref ml, .ref mm, .int (nI P9), .int th, .ref mk])), (ml, .inl (T 0, 6, .inl fl)), (mb, .inl (T 0, 1920, .inl fb)), (mm, .inl (T 0, 600, .inl F2))] H → va_D A [(m0, .inr (3, [.ref mb, .ref ml, .ref mm, .int (nI P9), .int th, .ref mk])), (ml, .inl (T 0, 6, .inl fl)), (mb, .inl (T 0, 1920, .inl fb)), (mm, .inl (T 0, 600, .inl F2))] → va_S A s.heap H locs → ∀ ls : Array Slot, lv_has ls 10 [(0, .ref m0), (1, .int (nI i)), (2, .int (nI k)), (3, .int (nI fl9)), (5, .int (nI (3 * q))), (6, .int (nI h)), (7, .int (nI (btN n b (3 * q) 3))), (4, .int (nI (4 * q + d))), (8, .int (nI d)), (9, .int (nI 1))] → W p l e (headSpec wsX6_writes ({ frames := 1, cells := 0, slots := 0, locals := 22 } : Room)).room s m ([.ref m0, .int (nI i), .int (nI k), .int (nI fl9)] : List Value).toArray below meth c H locs 0 0 (MQ below (QM D T A (fun u : Nat → Int32 => none) (fun u : Nat → Int32 => MD u (lnN k n fl9) (wrA k n b)) (fun u : Nat → Int32 => [(m0, .inr (3, [.ref mb, .ref ml, .ref mm, .int (nI (lnN k n fl9)), .int th, .ref mk])), (ml, .inl (T 0, 6, .inl fl)), (mb, .inl (T 0, 1920, .inl fb)), (mm, .inl (T 0, 600, .inl u))])) ([.ref m0, .int (nI i), .int (nI k), .int (nI fl9)] : List Value).toArray s 0 0 A) (F0 m 163 ls []) := by
                          intro P9 F2 hw hx3 hx4 hF2 H locs hP hD hS ls hl
                          refine lv_aload_n hx hb dX6_writes_163 rfl (lv_at hl 0 rfl) ?_
                          refine lv_iload hx hb dX6_writes_164 (lv_at hl 9 rfl) ?_
                          refine ln_if_eq_f (tgt := 191) hx hb (by omega) (by decide) dX6_writes_166 (by decide) ?_
                          refine lv_aload_n hx hb dX6_writes_169 rfl (lv_at hl 0 rfl) ?_
                          refine lv_iload hx hb dX6_writes_170 (lv_at hl 6 rfl) ?_
                          refine lv_bipush (v := (nI 18)) hx hb dX6_writes_172 (by decide +kernel) ?_
                          refine lv_bipush (v := (nI 6)) hx hb dX6_writes_174 (by decide +kernel) ?_
                          refine lv_iload hx hb dX6_writes_176 (lv_at hl 8 rfl) ?_
                          refine ln_mul hx hb dX6_writes_178 ?_
                          refine ln_sub hx hb (by omega) dX6_writes_179 ?_
                          have hbt := bt_lt hb0 (3 * q) 3 (by decide)
                          refine ln_shr hx hb ⟨by omega, by omega⟩ dX6_writes_180 ?_
                          refine lv_bipush (v := (nI 63)) hx hb dX6_writes_181 (by decide +kernel) ?_
                          refine ln_and hx hb 6 (Nat.lt_of_le_of_lt (Nat.div_le_self _ _) (by omega)) (by decide +kernel) dX6_writes_183 ?_
                          have hbt := bt_lt hb0 (3 * q) 3 (by decide)
                          refine lv_iload_n hx hb dX6_writes_184 rfl (lv_at hl 2 rfl) ?_
                          refine ro_V (As := [.int (nI (((btN n b (3 * q) 3) / 2 ^ (18 - (6 * d))) % 2 ^ 6)), .int (nI k)]) (rest := [.ref m0]) (wc := []) (r := .int (nI (letN k (((btN n b (3 * q) 3) / 2 ^ (18 - (6 * d))) % 2 ^ 6)))) ⟨hx, hb, hml, hown, hts⟩ (c_X6_letter l D T g m0 (((btN n b (3 * q) 3) / 2 ^ (18 - (6 * d))) % 2 ^ 6) (Nat.mod_lt _ (by decide)) k hk) (cwV 2 hts gX6_writes_X6_letter rfl rfl rfl (by decide +kernel) ⟨Nat.le_of_ble_eq_true rfl, Nat.le_of_ble_eq_true rfl⟩) (va_recv hK hP (ci := 3) (q0 := 0) rfl rfl) hP hK hG hS [] rfl ⟨Nat.zero_le _, Nat.zero_le _⟩ rfl hl.1 (Nat.le_of_ble_eq_true rfl) dX6_writes_185 rfl ?_
                          refine lv_goto (tgt := 193) hx hb dX6_writes_188 (by decide) ?_
                          rw [show letN k (((btN n b (3 * q) 3) / 2 ^ (18 - (6 * d))) % 2 ^ 6) = wrA k n b P9 from by rw [hw, bt_3]; exact (sg_let hb0 (by omega) (by omega)).symm]
                          have hw9 := wrA_lt k n b P9
                          refine mu_V (As := [.int (nI (wrA k n b P9))]) (rest := []) (wc := [(m0, .inr (3, [.ref mb, .ref ml, .ref mm, .int (nI P9), .int th, .ref mk])), (mm, .inl (T 0, 600, .inl F2))]) (wr := [(ml, .inl (T 0, 6, .inl fl)), (mb, .inl (T 0, 1920, .inl fb))]) ⟨hx, hb, hml, hown, hts⟩ (c_X6_makes l D T g H.size m0 mb ml mm mk P9 th F2 (nI (wrA k n b P9)) (by omega)) (cwV 1 hts gX6_writes_X6_makes rfl rfl rfl (by decide +kernel) ⟨Nat.le_of_ble_eq_true rfl, Nat.le_of_ble_eq_true rfl⟩) (va_recv hK hP (ci := 3) (q0 := 0) rfl rfl) hP hD hK hG hS hA [0, 3] [1, 2] rfl (by decide) rfl (by decide) (by decide) ⟨Nat.le_of_ble_eq_true rfl, Nat.le_of_ble_eq_true rfl⟩ rfl hl.1 (Nat.le_of_ble_eq_true rfl) dX6_writes_193 rfl (fun u H locs hq13 hP hD hS => ?_)
                          have hP : va_P D cls [(ml, .inl (T 0, 6, .inl fl)), (mb, .inl (T 0, 1920, .inl fb)), (m0, .inr (3, [.ref mb, .ref ml, .ref mm, .int (nI (P9 + 1)), .int th, .ref mk])), (mm, .inl (T 0, 600, .inl (upd F2 P9 (nI (wrA k n b P9)))))] H := hP
                          have hD : va_D A [(ml, .inl (T 0, 6, .inl fl)), (mb, .inl (T 0, 1920, .inl fb)), (m0, .inr (3, [.ref mb, .ref ml, .ref mm, .int (nI (P9 + 1)), .int th, .ref mk])), (mm, .inl (T 0, 600, .inl (upd F2 P9 (nI (wrA k n b P9)))))] := hD
                          refine W.eq (g2 := F0 m 196 ls []) rfl ?_
                          refine lv_iinc (v := (nI ((4 * q + d) + 1))) (lv' := [(4, .int (nI ((4 * q + d) + 1))), (0, .ref m0), (1, .int (nI i)), (2, .int (nI k)), (3, .int (nI fl9)), (5, .int (nI (3 * q))), (6, .int (nI h)), (7, .int (nI (btN n b (3 * q) 3))), (8, .int (nI d)), (9, .int (nI 1))]) hx hb dX6_writes_196 hl (k := 7) rfl (ni_inc1 _) (by decide) rfl (fun ls hl => ?_)
                          have e5 : nI (4 * q + d + 1) = nI (4 * q + enN fl9 h (d + 1)) := by rw [he1.2]; rfl
                          rw [e5] at hl
                          have e6 : P9 + 1 = lnS k (4 * q + enN fl9 h (d + 1)) := by rw [he1.2, ← hx3]; rfl
                          have hF3 : MD (upd F2 P9 (nI (wrA k n b P9))) (lnS k (4 * q + enN fl9 h (d + 1))) (wrA k n b) := by rw [← e6]; exact MD_next hF2 (by omega) rfl (by omega)
                          refine lv_iinc (v := (nI (d + 1))) (lv' := [(8, .int (nI (d + 1))), (4, .int (nI (4 * q + enN fl9 h (d + 1)))), (0, .ref m0), (1, .int (nI i)), (2, .int (nI k)), (3, .int (nI fl9)), (5, .int (nI (3 * q))), (6, .int (nI h)), (7, .int (nI (btN n b (3 * q) 3))), (9, .int (nI 1))]) hx hb dX6_writes_199 hl (k := 8) rfl (ni_inc1 _) (by decide) rfl (fun ls hl => ?_)
                          refine lv_goto (tgt := 101) hx hb dX6_writes_202 (by decide) ?_
                          exact ih_101 (d + 1) (upd F2 P9 (nI (wrA k n b P9))) (by omega) (hF3) (by omega) _ _ (by rw [← e6]; exact hP.sub (ws' := [(m0, .inr (3, [.ref mb, .ref ml, .ref mm, .int (nI (P9 + 1)), .int th, .ref mk])), (ml, .inl (T 0, 6, .inl fl)), (mb, .inl (T 0, 1920, .inl fb)), (mm, .inl (T 0, 600, .inl (upd F2 P9 (nI (wrA k n b P9)))))]) [2, 0, 1, 3] rfl) (by rw [← e6]; exact hD.sub (ws' := [(m0, .inr (3, [.ref mb, .ref ml, .ref mm, .int (nI (P9 + 1)), .int th, .ref mk])), (ml, .inl (T 0, 6, .inl fl)), (mb, .inl (T 0, 1920, .inl fb)), (mm, .inl (T 0, 600, .inl (upd F2 P9 (nI (wrA k n b P9)))))]) [2, 0, 1, 3] (by decide) rfl) hS ls (lv_sub hl [2, 3, 4, 5, 6, 7, 8, 1, 0] rfl)
                        refine lv_iload_n hx hb dX6_writes_133 rfl (lv_at hl 3 rfl) ?_
                        refine lv_iconst (v := (nI 2)) hx hb dX6_writes_134 (by decide +kernel) ?_
                        refine ln_icmp_ne (tgt := 163) hx hb ⟨by omega, by omega⟩ dX6_writes_135 (by decide) (fun c_135 => ?_) (fun c_135 => ?_)
                        · exact J12 (lnS k (4 * q + d)) F1 (by first | exact lnS_ix (fun z => c_135 z.1) | exact lnS_ix (fun z => by omega) | exact c_135 ▸ lnS_ix2 (by omega) (by omega)) (by first | exact (lnS_on (fun z => c_135 z.1)).2 | exact (lnS_on (fun z => by omega)).2 | exact c_135 ▸ (lnS_brk (n := n) (b := b) (by omega) (by omega)).2.2.1) (by omega) (by first | exact hF1 | (have q9 := c_135 ▸ lnS_brk (n := n) (b := b) (s := 4 * q + d) (by omega) (by omega); exact MD_next (MD_next hF1 (by omega) q9.1.symm (by omega)) (by omega) q9.2.1.symm (by omega))) _ _ (hP.sub (ws' := [(m0, .inr (3, [.ref mb, .ref ml, .ref mm, .int (nI (lnS k (4 * q + d))), .int th, .ref mk])), (ml, .inl (T 0, 6, .inl fl)), (mb, .inl (T 0, 1920, .inl fb)), (mm, .inl (T 0, 600, .inl F1))]) [0, 1, 2, 3] rfl) (hD.sub (ws' := [(m0, .inr (3, [.ref mb, .ref ml, .ref mm, .int (nI (lnS k (4 * q + d))), .int th, .ref mk])), (ml, .inl (T 0, 6, .inl fl)), (mb, .inl (T 0, 1920, .inl fb)), (mm, .inl (T 0, 600, .inl F1))]) [0, 1, 2, 3] (by decide) rfl) hS ls (lv_sub hl [1, 2, 3, 4, 5, 6, 7, 8, 9, 0] rfl)
                        · refine lv_iload hx hb dX6_writes_138 (lv_at hl 8 rfl) ?_
                          refine ln_if_le (tgt := 163) hx hb (by omega) dX6_writes_140 (by decide) (fun c_140 => ?_) (fun c_140 => ?_)
                          · exact J12 (lnS k (4 * q + d)) F1 (by first | exact lnS_ix (fun z => c_135 z.1) | exact lnS_ix (fun z => by omega) | exact c_135 ▸ lnS_ix2 (by omega) (by omega)) (by first | exact (lnS_on (fun z => c_135 z.1)).2 | exact (lnS_on (fun z => by omega)).2 | exact c_135 ▸ (lnS_brk (n := n) (b := b) (by omega) (by omega)).2.2.1) (by omega) (by first | exact hF1 | (have q9 := c_135 ▸ lnS_brk (n := n) (b := b) (s := 4 * q + d) (by omega) (by omega); exact MD_next (MD_next hF1 (by omega) q9.1.symm (by omega)) (by omega) q9.2.1.symm (by omega))) _ _ (hP.sub (ws' := [(m0, .inr (3, [.ref mb, .ref ml, .ref mm, .int (nI (lnS k (4 * q + d))), .int th, .ref mk])), (ml, .inl (T 0, 6, .inl fl)), (mb, .inl (T 0, 1920, .inl fb)), (mm, .inl (T 0, 600, .inl F1))]) [0, 1, 2, 3] rfl) (hD.sub (ws' := [(m0, .inr (3, [.ref mb, .ref ml, .ref mm, .int (nI (lnS k (4 * q + d))), .int th, .ref mk])), (ml, .inl (T 0, 6, .inl fl)), (mb, .inl (T 0, 1920, .inl fb)), (mm, .inl (T 0, 600, .inl F1))]) [0, 1, 2, 3] (by decide) rfl) hS ls (lv_sub hl [1, 2, 3, 4, 5, 6, 7, 8, 9, 0] rfl)
                          · refine lv_iload hx hb dX6_writes_143 (lv_at hl 8 rfl) ?_
                            refine lv_bipush (v := (nI 76)) hx hb dX6_writes_145 (by decide +kernel) ?_
                            refine ln_rem hx hb ⟨by omega, by omega, by omega⟩ dX6_writes_147 ?_
                            refine ln_if_ne (tgt := 163) hx hb (by omega) dX6_writes_148 (by decide) (fun c_148 => ?_) (fun c_148 => ?_)
                            · exact J12 (lnS k (4 * q + d)) F1 (by first | exact lnS_ix (fun z => c_135 z.1) | exact lnS_ix (fun z => by omega) | exact c_135 ▸ lnS_ix2 (by omega) (by omega)) (by first | exact (lnS_on (fun z => c_135 z.1)).2 | exact (lnS_on (fun z => by omega)).2 | exact c_135 ▸ (lnS_brk (n := n) (b := b) (by omega) (by omega)).2.2.1) (by omega) (by first | exact hF1 | (have q9 := c_135 ▸ lnS_brk (n := n) (b := b) (s := 4 * q + d) (by omega) (by omega); exact MD_next (MD_next hF1 (by omega) q9.1.symm (by omega)) (by omega) q9.2.1.symm (by omega))) _ _ (hP.sub (ws' := [(m0, .inr (3, [.ref mb, .ref ml, .ref mm, .int (nI (lnS k (4 * q + d))), .int th, .ref mk])), (ml, .inl (T 0, 6, .inl fl)), (mb, .inl (T 0, 1920, .inl fb)), (mm, .inl (T 0, 600, .inl F1))]) [0, 1, 2, 3] rfl) (hD.sub (ws' := [(m0, .inr (3, [.ref mb, .ref ml, .ref mm, .int (nI (lnS k (4 * q + d))), .int th, .ref mk])), (ml, .inl (T 0, 6, .inl fl)), (mb, .inl (T 0, 1920, .inl fb)), (mm, .inl (T 0, 600, .inl F1))]) [0, 1, 2, 3] (by decide) rfl) hS ls (lv_sub hl [1, 2, 3, 4, 5, 6, 7, 8, 9, 0] rfl)
                            · refine lv_aload_n hx hb dX6_writes_151 rfl (lv_at hl 1 rfl) ?_
                              refine lv_bipush (v := (nI 13)) hx hb dX6_writes_152 (by decide +kernel) ?_
                              refine mu_V (As := [.int (nI 13)]) (rest := []) (wc := [(m0, .inr (3, [.ref mb, .ref ml, .ref mm, .int (nI (lnS k (4 * q + d))), .int th, .ref mk])), (mm, .inl (T 0, 600, .inl F1))]) (wr := [(ml, .inl (T 0, 6, .inl fl)), (mb, .inl (T 0, 1920, .inl fb))]) ⟨hx, hb, hml, hown, hts⟩ (c_X6_makes l D T g H.size m0 mb ml mm mk (lnS k (4 * q + d)) th F1 (nI 13) (by omega)) (cwV 1 hts gX6_writes_X6_makes rfl rfl rfl (by decide +kernel) ⟨Nat.le_of_ble_eq_true rfl, Nat.le_of_ble_eq_true rfl⟩) (va_recv hK hP (ci := 3) (q0 := 0) rfl rfl) hP hD hK hG hS hA [0, 3] [1, 2] rfl (by decide) rfl (by decide) (by decide) ⟨Nat.le_of_ble_eq_true rfl, Nat.le_of_ble_eq_true rfl⟩ rfl hl.1 (Nat.le_of_ble_eq_true rfl) dX6_writes_154 rfl (fun u H locs hq14 hP hD hS => ?_)
                              have hP : va_P D cls [(ml, .inl (T 0, 6, .inl fl)), (mb, .inl (T 0, 1920, .inl fb)), (m0, .inr (3, [.ref mb, .ref ml, .ref mm, .int (nI ((lnS k (4 * q + d)) + 1)), .int th, .ref mk])), (mm, .inl (T 0, 600, .inl (upd F1 (lnS k (4 * q + d)) (nI 13))))] H := hP
                              have hD : va_D A [(ml, .inl (T 0, 6, .inl fl)), (mb, .inl (T 0, 1920, .inl fb)), (m0, .inr (3, [.ref mb, .ref ml, .ref mm, .int (nI ((lnS k (4 * q + d)) + 1)), .int th, .ref mk])), (mm, .inl (T 0, 600, .inl (upd F1 (lnS k (4 * q + d)) (nI 13))))] := hD
                              refine W.eq (g2 := F0 m 157 ls []) rfl ?_
                              refine lv_aload_n hx hb dX6_writes_157 rfl (lv_at hl 1 rfl) ?_
                              refine lv_bipush (v := (nI 10)) hx hb dX6_writes_158 (by decide +kernel) ?_
                              refine mu_V (As := [.int (nI 10)]) (rest := []) (wc := [(m0, .inr (3, [.ref mb, .ref ml, .ref mm, .int (nI ((lnS k (4 * q + d)) + 1)), .int th, .ref mk])), (mm, .inl (T 0, 600, .inl (upd F1 (lnS k (4 * q + d)) (nI 13))))]) (wr := [(ml, .inl (T 0, 6, .inl fl)), (mb, .inl (T 0, 1920, .inl fb))]) ⟨hx, hb, hml, hown, hts⟩ (c_X6_makes l D T g H.size m0 mb ml mm mk ((lnS k (4 * q + d)) + 1) th (upd F1 (lnS k (4 * q + d)) (nI 13)) (nI 10) (by omega)) (cwV 1 hts gX6_writes_X6_makes rfl rfl rfl (by decide +kernel) ⟨Nat.le_of_ble_eq_true rfl, Nat.le_of_ble_eq_true rfl⟩) (va_recv hK hP (ci := 3) (q0 := 2) rfl rfl) hP hD hK hG hS hA [2, 3] [0, 1] rfl (by decide) rfl (by decide) (by decide) ⟨Nat.le_of_ble_eq_true rfl, Nat.le_of_ble_eq_true rfl⟩ rfl hl.1 (Nat.le_of_ble_eq_true rfl) dX6_writes_160 rfl (fun u H locs hq15 hP hD hS => ?_)
                              have hP : va_P D cls [(ml, .inl (T 0, 6, .inl fl)), (mb, .inl (T 0, 1920, .inl fb)), (m0, .inr (3, [.ref mb, .ref ml, .ref mm, .int (nI (((lnS k (4 * q + d)) + 1) + 1)), .int th, .ref mk])), (mm, .inl (T 0, 600, .inl (upd (upd F1 (lnS k (4 * q + d)) (nI 13)) ((lnS k (4 * q + d)) + 1) (nI 10))))] H := hP
                              have hD : va_D A [(ml, .inl (T 0, 6, .inl fl)), (mb, .inl (T 0, 1920, .inl fb)), (m0, .inr (3, [.ref mb, .ref ml, .ref mm, .int (nI (((lnS k (4 * q + d)) + 1) + 1)), .int th, .ref mk])), (mm, .inl (T 0, 600, .inl (upd (upd F1 (lnS k (4 * q + d)) (nI 13)) ((lnS k (4 * q + d)) + 1) (nI 10))))] := hD
                              refine W.eq (g2 := F0 m 163 ls []) rfl ?_
                              exact J12 (((lnS k (4 * q + d)) + 1) + 1) (upd (upd F1 (lnS k (4 * q + d)) (nI 13)) ((lnS k (4 * q + d)) + 1) (nI 10)) (by first | exact lnS_ix (fun z => c_135 z.1) | exact lnS_ix (fun z => by omega) | exact c_135 ▸ lnS_ix2 (by omega) (by omega)) (by first | exact (lnS_on (fun z => c_135 z.1)).2 | exact (lnS_on (fun z => by omega)).2 | exact c_135 ▸ (lnS_brk (n := n) (b := b) (by omega) (by omega)).2.2.1) (by omega) (by first | exact hF1 | (have q9 := c_135 ▸ lnS_brk (n := n) (b := b) (s := 4 * q + d) (by omega) (by omega); exact MD_next (MD_next hF1 (by omega) q9.1.symm (by omega)) (by omega) q9.2.1.symm (by omega))) _ _ (hP.sub (ws' := [(m0, .inr (3, [.ref mb, .ref ml, .ref mm, .int (nI (((lnS k (4 * q + d)) + 1) + 1)), .int th, .ref mk])), (ml, .inl (T 0, 6, .inl fl)), (mb, .inl (T 0, 1920, .inl fb)), (mm, .inl (T 0, 600, .inl (upd (upd F1 (lnS k (4 * q + d)) (nI 13)) ((lnS k (4 * q + d)) + 1) (nI 10))))]) [2, 0, 1, 3] rfl) (hD.sub (ws' := [(m0, .inr (3, [.ref mb, .ref ml, .ref mm, .int (nI (((lnS k (4 * q + d)) + 1) + 1)), .int th, .ref mk])), (ml, .inl (T 0, 6, .inl fl)), (mb, .inl (T 0, 1920, .inl fb)), (mm, .inl (T 0, 600, .inl (upd (upd F1 (lnS k (4 * q + d)) (nI 13)) ((lnS k (4 * q + d)) + 1) (nI 10))))]) [2, 0, 1, 3] (by decide) rfl) hS ls (lv_sub hl [1, 2, 3, 4, 5, 6, 7, 8, 9, 0] rfl)
                exact K5 _ 0 F (by omega) (by rw [en_0]; exact hF) (Nat.lt_succ_self _) H locs (by rw [e00]; exact hP.sub (ws' := [(m0, .inr (3, [.ref mb, .ref ml, .ref mm, .int (nI (lnS k (4 * q))), .int th, .ref mk])), (ml, .inl (T 0, 6, .inl fl)), (mb, .inl (T 0, 1920, .inl fb)), (mm, .inl (T 0, 600, .inl F))]) [0, 1, 2, 3] rfl) (by rw [e00]; exact hD.sub (ws' := [(m0, .inr (3, [.ref mb, .ref ml, .ref mm, .int (nI (lnS k (4 * q))), .int th, .ref mk])), (ml, .inl (T 0, 6, .inl fl)), (mb, .inl (T 0, 1920, .inl fb)), (mm, .inl (T 0, 600, .inl F))]) [0, 1, 2, 3] (by decide) rfl) hS ls (lv_sub hl [1, 2, 3, 4, 6, 7, 8, 5, 0] rfl)
              · have J16 : ∀ (v : Nat), (v = atN n b (3 * q + d)) → ∀ ls : Array Slot, lv_has ls 10 [(0, .ref m0), (1, .int (nI i)), (2, .int (nI k)), (3, .int (nI fl9)), (4, .int (nI (4 * q))), (5, .int (nI (3 * q))), (6, .int (nI h)), (7, .int (nI (btN n b (3 * q) d))), (8, .int (nI d))] → W p l e (headSpec wsX6_writes ({ frames := 1, cells := 0, slots := 0, locals := 22 } : Room)).room s m ([.ref m0, .int (nI i), .int (nI k), .int (nI fl9)] : List Value).toArray below meth c H locs 0 0 (MQ below (QM D T A (fun u : Nat → Int32 => none) (fun u : Nat → Int32 => MD u (lnN k n fl9) (wrA k n b)) (fun u : Nat → Int32 => [(m0, .inr (3, [.ref mb, .ref ml, .ref mm, .int (nI (lnN k n fl9)), .int th, .ref mk])), (ml, .inl (T 0, 6, .inl fl)), (mb, .inl (T 0, 1920, .inl fb)), (mm, .inl (T 0, 600, .inl u))])) ([.ref m0, .int (nI i), .int (nI k), .int (nI fl9)] : List Value).toArray s 0 0 A) (F0 m 89 ls [.int (nI v), .int (nI (256 * (btN n b (3 * q) d)))]) := by
                  intro v hv ls hl
                  refine ln_add hx hb dX6_writes_89 ?_
                  rw [hv, show 256 * (btN n b (3 * q) d) + atN n b (3 * q + d) = btN n b (3 * q) (d + 1) from rfl]
                  refine lv_istore (lv' := [(7, .int (nI (btN n b (3 * q) (d + 1)))), (0, .ref m0), (1, .int (nI i)), (2, .int (nI k)), (3, .int (nI fl9)), (4, .int (nI (4 * q))), (5, .int (nI (3 * q))), (6, .int (nI h)), (8, .int (nI d))]) hx hb dX6_writes_90 hl (by decide) rfl (fun ls hl => ?_)
                  refine lv_iinc (v := (nI (d + 1))) (lv' := [(8, .int (nI (d + 1))), (7, .int (nI (btN n b (3 * q) (d + 1)))), (0, .ref m0), (1, .int (nI i)), (2, .int (nI k)), (3, .int (nI fl9)), (4, .int (nI (4 * q))), (5, .int (nI (3 * q))), (6, .int (nI h))]) hx hb dX6_writes_92 hl (k := 8) rfl (ni_inc1 _) (by decide) rfl (fun ls hl => ?_)
                  refine lv_goto (tgt := 56) hx hb dX6_writes_95 (by decide) ?_
                  exact ih_56 (d + 1) (by omega) (by omega) ls (lv_sub hl [2, 3, 4, 5, 6, 7, 8, 1, 0] rfl)
                refine lv_sipush (v := (nI 256)) hx hb dX6_writes_62 (by decide +kernel) ?_
                refine lv_iload hx hb dX6_writes_65 (lv_at hl 7 rfl) ?_
                have hbt := bt_lt hb0 (3 * q) d (by omega)
                refine ln_mul hx hb dX6_writes_67 ?_
                refine lv_iload hx hb dX6_writes_68 (lv_at hl 8 rfl) ?_
                refine lv_iload hx hb dX6_writes_70 (lv_at hl 6 rfl) ?_
                refine ln_icmp_ge (tgt := 88) hx hb ⟨by omega, by omega⟩ dX6_writes_72 (by decide) (fun c_72 => ?_) (fun c_72 => ?_)
                · refine lv_iconst (v := (nI 0)) hx hb dX6_writes_88 (by decide +kernel) ?_
                  exact J16 0 (by first | exact (atN_in (by omega)).symm | exact (atN_out (by omega)).symm) ls (lv_sub hl [0, 1, 2, 3, 4, 5, 6, 7, 8] rfl)
                · refine lv_aload_n hx hb dX6_writes_75 rfl (lv_at hl 0 rfl) ?_
                  refine lv_iload_n hx hb dX6_writes_76 rfl (lv_at hl 1 rfl) ?_
                  refine lv_iload hx hb dX6_writes_77 (lv_at hl 5 rfl) ?_
                  refine lv_iload hx hb dX6_writes_79 (lv_at hl 8 rfl) ?_
                  refine ln_add hx hb dX6_writes_81 ?_
                  refine ro_V (As := [.int (nI i), .int (nI ((3 * q) + d))]) (rest := [.int (nI (256 * (btN n b (3 * q) d)))]) (wc := [(m0, .inr (3, [.ref mb, .ref ml, .ref mm, .int (nI (lnS k (4 * q))), .int th, .ref mk])), (mb, .inl (T 0, 1920, .inl fb))]) (r := .int (nI (b ((3 * q) + d)))) ⟨hx, hb, hml, hown, hts⟩ (c_X6_atB l D T g m0 mb ml mm mk (lnS k (4 * q)) th fb i ((3 * q) + d) n b hi hrw (by omega)) (cwV 2 hts gX6_writes_X6_at rfl rfl rfl (by decide +kernel) ⟨Nat.le_of_ble_eq_true rfl, Nat.le_of_ble_eq_true rfl⟩) (va_recv hK hP (ci := 3) (q0 := 0) rfl rfl) hP hK hG hS [0, 2] rfl ⟨Nat.zero_le _, Nat.zero_le _⟩ rfl hl.1 (Nat.le_of_ble_eq_true rfl) dX6_writes_82 rfl ?_
                  refine lv_goto (tgt := 89) hx hb dX6_writes_85 (by decide) ?_
                  exact J16 (b ((3 * q) + d)) (by first | exact (atN_in (by omega)).symm | exact (atN_out (by omega)).symm) ls (lv_sub hl [0, 1, 2, 3, 4, 5, 6, 7, 8] rfl)
          exact K3 _ 0 (by omega) (Nat.lt_succ_self _) ls (lv_sub hl [3, 4, 5, 6, 7, 8, 2, 1, 0] rfl)
        refine lv_aload_n hx hb dX6_writes_22 rfl (lv_at hl 0 rfl) ?_
        refine va_get (D := D) (ci := 3) (v := .ref ml) (C := RX6) (T := TX6) (N := 6) hx hb hts hi_X6 hown hK hP 0 rfl rfl 1 (by decide) (hts _ (List.mem_of_getElem? (i := 2) rfl)) (fun _ h9 => h9) rfl dX6_writes_23 ?_
        refine lv_iload_n hx hb dX6_writes_26 rfl (lv_at hl 1 rfl) ?_
        refine ln_iald hx hb hK hP 1 0 rfl rfl ⟨by omega, by omega⟩ dX6_writes_27 ?_
        rw [show fl i = nI n from hln]
        refine lv_iload hx hb dX6_writes_28 (lv_at hl 5 rfl) ?_
        refine ln_sub hx hb (by omega) dX6_writes_30 ?_
        refine lv_iconst (v := (nI 3)) hx hb dX6_writes_31 (by decide +kernel) ?_
        refine ln_icmp_ge (tgt := 47) hx hb ⟨by omega, by omega⟩ dX6_writes_32 (by decide) (fun c_32 => ?_) (fun c_32 => ?_)
        · refine lv_iconst (v := (nI 3)) hx hb dX6_writes_47 (by decide +kernel) ?_
          exact J2 3 (by omega) ls (lv_sub hl [0, 1, 2, 3, 4, 5] rfl)
        · refine lv_aload_n hx hb dX6_writes_35 rfl (lv_at hl 0 rfl) ?_
          refine va_get (D := D) (ci := 3) (v := .ref ml) (C := RX6) (T := TX6) (N := 6) hx hb hts hi_X6 hown hK hP 0 rfl rfl 1 (by decide) (hts _ (List.mem_of_getElem? (i := 2) rfl)) (fun _ h9 => h9) rfl dX6_writes_36 ?_
          refine lv_iload_n hx hb dX6_writes_39 rfl (lv_at hl 1 rfl) ?_
          refine ln_iald hx hb hK hP 1 0 rfl rfl ⟨by omega, by omega⟩ dX6_writes_40 ?_
          rw [show fl i = nI n from hln]
          refine lv_iload hx hb dX6_writes_41 (lv_at hl 5 rfl) ?_
          refine ln_sub hx hb (by omega) dX6_writes_43 ?_
          refine lv_goto (tgt := 48) hx hb dX6_writes_44 (by decide) ?_
          exact J2 (n - (3 * q)) (by omega) ls (lv_sub hl [0, 1, 2, 3, 4, 5] rfl)
  exact K1 _ 0 fm (by omega) (by rw [← e0]; exact MD_zero _ _) (Nat.lt_succ_self _) H locs (by rw [← e0]; exact hP.sub (ws' := [(m0, .inr (3, [.ref mb, .ref ml, .ref mm, .int (nI 0), .int th, .ref mk])), (ml, .inl (T 0, 6, .inl fl)), (mb, .inl (T 0, 1920, .inl fb)), (mm, .inl (T 0, 600, .inl fm))]) [0, 1, 2, 3] rfl) (by rw [← e0]; exact hD.sub (ws' := [(m0, .inr (3, [.ref mb, .ref ml, .ref mm, .int (nI 0), .int th, .ref mk])), (ml, .inl (T 0, 6, .inl fl)), (mb, .inl (T 0, 1920, .inl fb)), (mm, .inl (T 0, 600, .inl fm))]) [0, 1, 2, 3] (by decide) rfl) hS ls (lv_sub hl [2, 3, 4, 5, 1, 0] rfl)
