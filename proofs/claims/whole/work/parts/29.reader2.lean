set_option maxHeartbeats 4000000 in
set_option maxRecDepth 100000 in
/-- reads a row -/
theorem c_X1_accepts (l : Launch) (D : va_G) (T : Nat → ClassId) (g : Nat → Nat) (sz : Nat) (r0 : Nat) (fr : Nat) (fq : Nat) (F : Nat → Int32) (nF : Nat) (B0 : Int32) (hd0 : Int32) (h0 : Nat) (q0 : Nat) (f : Nat → Int32) (n : Nat) (k : Nat) (b : Nat → Nat) (hb9 : RB f n b) (hk : k < 3) : MU l yX1_accepts wsX1_accepts ({ frames := 3, cells := 0, slots := 0, locals := 67 } : Room) D T g [.ref r0, .ref h0, .ref (g k)] [(r0, .inr (1, [.ref fr, .int B0, .int hd0])), (fr, .inr (0, [.ref fq, .int (nI nF)])), (fq, .inl (T 0, 440, .inl F)), (h0, .inr (0, [.ref q0, .int (nI n)])), (q0, .inl (T 0, 440, .inl f))] sz (fun u : (Nat → Int32) × Nat × Int32 × Int32 => some (.int (bI (acB k n b)))) (fun u : (Nat → Int32) × Nat × Int32 × Int32 => u.2.1 ≤ 440 ∧ (acB k n b = true → u.2.1 = cnF k n b ∧ RB u.1 u.2.1 (outB (lwF k n b)))) (fun u : (Nat → Int32) × Nat × Int32 × Int32 => [(r0, .inr (1, [.ref fr, .int u.2.2.1, .int u.2.2.2])), (fr, .inr (0, [.ref fq, .int (nI u.2.1)])), (fq, .inl (T 0, 440, .inl u.1)), (h0, .inr (0, [.ref q0, .int (nI n)])), (q0, .inl (T 0, 440, .inl f))]) 0 0 := by
  refine Met.ofW (cc := cX1_accepts) (maxL := 5) (ret := (some .boolean)) (by decide) rfl ?_
  intro p e s m args below meth c s₁ B hml hv
  obtain ⟨rfl, hsz, hP, hK, hD0, hG⟩ := hv
  have hx := B.exec
  have hb := B.bytes
  have hr := B.returns
  have hts := atoms_spec (ws := wsX1_accepts) B.pre
  have hown : s.vm.findClass RX1 = some m.cls := findClass_of_methodNamed B.named
  have hlocks := B.notSynchronized
  have hi_X1 : ∀ w ∈ wsX10, w ∈ wsX1_accepts := by decide +kernel
  have hi_X2 : ∀ w ∈ wsX20, w ∈ wsX1_accepts := by decide +kernel
  subst hsz
  have hD := hD0.self (sz := s.heap.size)
  generalize hAe : va_A [(r0, .inr (1, [.ref fr, .int B0, .int hd0])), (fr, .inr (0, [.ref fq, .int (nI nF)])), (fq, .inl (T 0, 440, .inl F)), (h0, .inr (0, [.ref q0, .int (nI n)])), (q0, .inl (T 0, 440, .inl f))] s.heap.size = A at hD hG ⊢
  have hA : ∀ q : Nat, s.heap.size ≤ q → A q := fun q h => by rw [← hAe]; exact Or.inr h
  have hS : va_S A s.heap s.heap [] := va_S.rf
  have hP : va_P D cls [(r0, .inr (1, [.ref fr, .int B0, .int hd0])), (fr, .inr (0, [.ref fq, .int (nI nF)])), (fq, .inl (T 0, 440, .inl F)), (h0, .inr (0, [.ref q0, .int (nI n)])), (q0, .inl (T 0, 440, .inl f))] s.heap := hP
  have hl := lv_entry ([.ref r0, .ref h0, .ref (g k)]) (n := 5) (Nat.le_of_ble_eq_true rfl)
  rw [lg_entry_eq]
  generalize (lg_sl ([.ref r0, .ref h0, .ref (g k)]) ++ List.replicate (5 - (lg_sl ([.ref r0, .ref h0, .ref (g k)])).length) Slot.unset).toArray = ls at hl ⊢
  have hl : lv_has ls 5 [(0, .ref r0), (1, .ref h0), (2, .ref (g k))] := hl
  have hn := hb9.1
  have kh := kH_lt k
  refine lv_aload_n hx hb dX1_accepts_0 rfl (lv_at hl 0 rfl) ?_
  refine va_get (D := D) (ci := 1) (v := .ref fr) (C := RX1) (T := TX1) (N := 3) hx hb hts hi_X1 hown hK hP 0 rfl rfl 0 (by decide) (hts _ (List.mem_of_getElem? (i := 1) rfl)) (fun _ h9 => h9) rfl dX1_accepts_1 ?_
  refine mu_V (As := []) (rest := []) (wc := [(fr, .inr (0, [.ref fq, .int (nI nF)])), (fq, .inl (T 0, 440, .inl F))]) (wr := [(r0, .inr (1, [.ref fr, .int B0, .int hd0])), (h0, .inr (0, [.ref q0, .int (nI n)])), (q0, .inl (T 0, 440, .inl f))]) ⟨hx, hb, hml, hown, hts⟩ (c_X2_clear l D T g s.heap.size fr fq F nF) (cwV 0 hts gX1_accepts_X2_clear rfl rfl rfl (by decide +kernel) ⟨Nat.le_of_ble_eq_true rfl, Nat.le_of_ble_eq_true rfl⟩) (va_recv hK hP (ci := 0) (q0 := 1) rfl rfl) hP hD hK hG hS hA [1, 2] [0, 3, 4] rfl (by decide) rfl (by decide) (by decide) ⟨Nat.le_of_ble_eq_true rfl, Nat.le_of_ble_eq_true rfl⟩ rfl hl.1 (Nat.le_of_ble_eq_true rfl) dX1_accepts_4 rfl (fun u H locs hq1 hP hD hS => ?_)
  have hP : va_P D cls [(r0, .inr (1, [.ref fr, .int B0, .int hd0])), (h0, .inr (0, [.ref q0, .int (nI n)])), (q0, .inl (T 0, 440, .inl f)), (fr, .inr (0, [.ref fq, .int (nI 0)])), (fq, .inl (T 0, 440, .inl F))] H := hP
  have hD : va_D A [(r0, .inr (1, [.ref fr, .int B0, .int hd0])), (h0, .inr (0, [.ref q0, .int (nI n)])), (q0, .inl (T 0, 440, .inl f)), (fr, .inr (0, [.ref fq, .int (nI 0)])), (fq, .inl (T 0, 440, .inl F))] := hD
  refine W.eq (g2 := F0 m 7 ls []) rfl ?_
  refine lv_aload_n hx hb dX1_accepts_7 rfl (lv_at hl 0 rfl) ?_
  refine lv_iconst (v := (nI 0)) hx hb dX1_accepts_8 (by decide +kernel) ?_
  refine va_put (D := D) (ci := 1) (v := .int (nI 0)) (ty := .int) (C := RX1) (T := TX1) (N := 3) hx hb hts hi_X1 tyX1 tyX1_ok nmX1 hown hK hP hD hS 0 rfl rfl 1 (by decide) (hts _ (List.mem_of_getElem? (i := 2) rfl)) (fun _ h9 => h9) rfl (by decide +kernel) rfl rfl (Nat.le_of_ble_eq_true rfl) dX1_accepts_9 (fun H locs hP hD hS => ?_)
  have hP : va_P D cls [(r0, .inr (1, [.ref fr, .int (nI 0), .int hd0])), (h0, .inr (0, [.ref q0, .int (nI n)])), (q0, .inl (T 0, 440, .inl f)), (fr, .inr (0, [.ref fq, .int (nI 0)])), (fq, .inl (T 0, 440, .inl F))] H := hP
  have hD : va_D A [(r0, .inr (1, [.ref fr, .int (nI 0), .int hd0])), (h0, .inr (0, [.ref q0, .int (nI n)])), (q0, .inl (T 0, 440, .inl f)), (fr, .inr (0, [.ref fq, .int (nI 0)])), (fq, .inl (T 0, 440, .inl F))] := hD
  refine lv_aload_n hx hb dX1_accepts_12 rfl (lv_at hl 0 rfl) ?_
  refine lv_iconst (v := (nI 0)) hx hb dX1_accepts_13 (by decide +kernel) ?_
  refine va_put (D := D) (ci := 1) (v := .int (nI 0)) (ty := .int) (C := RX1) (T := TX1) (N := 3) hx hb hts hi_X1 tyX1 tyX1_ok nmX1 hown hK hP hD hS 0 rfl rfl 2 (by decide) (hts _ (List.mem_of_getElem? (i := 3) rfl)) (fun _ h9 => h9) rfl (by decide +kernel) rfl rfl (Nat.le_of_ble_eq_true rfl) dX1_accepts_14 (fun H locs hP hD hS => ?_)
  have hP : va_P D cls [(r0, .inr (1, [.ref fr, .int (nI 0), .int (nI 0)])), (h0, .inr (0, [.ref q0, .int (nI n)])), (q0, .inl (T 0, 440, .inl f)), (fr, .inr (0, [.ref fq, .int (nI 0)])), (fq, .inl (T 0, 440, .inl F))] H := hP
  have hD : va_D A [(r0, .inr (1, [.ref fr, .int (nI 0), .int (nI 0)])), (h0, .inr (0, [.ref q0, .int (nI n)])), (q0, .inl (T 0, 440, .inl f)), (fr, .inr (0, [.ref fq, .int (nI 0)])), (fq, .inl (T 0, 440, .inl F))] := hD
  refine lv_iconst (v := (nI 0)) hx hb dX1_accepts_17 (by decide +kernel) ?_
  have b1 : parB (lwS k b 0) = 0 := parB_0 rfl
  have b2 : (lwS k b 0).length % 4 = 0 := rfl
  have b3 : 3 * ((lwS k b 0).length / 4) = 0 := by simp [lwS]
  refine lv_istore_n (lv' := [(3, .int (nI 0)), (0, .ref r0), (1, .ref h0), (2, .ref (g k))]) hx hb dX1_accepts_18 rfl hl (by decide) rfl (fun ls hl => ?_)
  have K2 : ∀ (N9 : Nat) (p9 : Nat) (F1 : Nat → Int32), (p9 ≤ n) → (∀ j, j < p9 → eqB b j = false) → (k = 2 ∨ (lwS k b p9).length = p9) → (RB F1 (3 * ((lwS k b p9).length / 4)) (outB (lwS k b p9))) → n - p9 < N9 → ∀ (H : Heap) (locs : List Loc), va_P D cls [(r0, .inr (1, [.ref fr, .int (nI (parB (lwS k b p9))), .int (nI ((lwS k b p9).length % 4))])), (fr, .inr (0, [.ref fq, .int (nI (3 * ((lwS k b p9).length / 4)))])), (fq, .inl (T 0, 440, .inl F1)), (h0, .inr (0, [.ref q0, .int (nI n)])), (q0, .inl (T 0, 440, .inl f))] H → va_D A [(r0, .inr (1, [.ref fr, .int (nI (parB (lwS k b p9))), .int (nI ((lwS k b p9).length % 4))])), (fr, .inr (0, [.ref fq, .int (nI (3 * ((lwS k b p9).length / 4)))])), (fq, .inl (T 0, 440, .inl F1)), (h0, .inr (0, [.ref q0, .int (nI n)])), (q0, .inl (T 0, 440, .inl f))] → va_S A s.heap H locs → ∀ ls : Array Slot, lv_has ls 5 [(0, .ref r0), (1, .ref h0), (2, .ref (g k)), (3, .int (nI p9))] → W p l e (headSpec wsX1_accepts ({ frames := 3, cells := 0, slots := 0, locals := 67 } : Room)).room s m ([.ref r0, .ref h0, .ref (g k)] : List Value).toArray below meth c H locs 0 0 (MQ below (QM D T A (fun u : (Nat → Int32) × Nat × Int32 × Int32 => some (.int (bI (acB k n b)))) (fun u : (Nat → Int32) × Nat × Int32 × Int32 => u.2.1 ≤ 440 ∧ (acB k n b = true → u.2.1 = cnF k n b ∧ RB u.1 u.2.1 (outB (lwF k n b)))) (fun u : (Nat → Int32) × Nat × Int32 × Int32 => [(r0, .inr (1, [.ref fr, .int u.2.2.1, .int u.2.2.2])), (fr, .inr (0, [.ref fq, .int (nI u.2.1)])), (fq, .inl (T 0, 440, .inl u.1)), (h0, .inr (0, [.ref q0, .int (nI n)])), (q0, .inl (T 0, 440, .inl f))])) ([.ref r0, .ref h0, .ref (g k)] : List Value).toArray s 0 0 A) (F0 m 19 ls []) := by
    intro N9
    induction N9 with
    | zero => intro p9 F1 hp hq hlt hF h9; exact absurd h9 (Nat.not_lt_zero _)
    | succ N9 ih =>
      intro p9 F1 hp hq hlt hF h9 H locs hP hD hS ls hl
      refine lv_iload_n hx hb dX1_accepts_19 rfl (lv_at hl 3 rfl) ?_
      refine lv_aload_n hx hb dX1_accepts_20 rfl (lv_at hl 1 rfl) ?_
      refine va_getN (D := D) (ci := 0) (v := .int (nI n)) (C := RX2) (T := TX2) (N := 2) hx hb hts hi_X2 hown hK hP 3 rfl rfl 1 (by decide) (va_Nw.use rfl (hG.2.2.2.2.2.2.2.1 _ (List.mem_of_getElem? (i := 1) rfl))) (fun _ h9 => h9) rfl dX1_accepts_21 ?_
      refine ln_icmp_ge (tgt := 77) hx hb ⟨by omega, by omega⟩ dX1_accepts_24 (by decide) (fun c_24 => ?_) (fun c_24 => ?_)
      · have hf6 : fF n b = p9 := by first | exact fsN_eq hp hq (Or.inr (decide_eq_true c_34)) | exact fsN_eq hp hq (Or.inl (by omega))
        have h64 := lwS_64 k b p9
        have hp6 := parB_lt h64
        have hle6 := lwS_le k b p9
        refine lv_aload_n hx hb dX1_accepts_77 rfl (lv_at hl 0 rfl) ?_
        refine va_get (D := D) (ci := 1) (v := .int (nI ((lwS k b p9).length % 4))) (C := RX1) (T := TX1) (N := 3) hx hb hts hi_X1 hown hK hP 0 rfl rfl 2 (by decide) (hts _ (List.mem_of_getElem? (i := 3) rfl)) (fun _ h9 => h9) rfl dX1_accepts_78 ?_
        refine lv_iconst (v := (nI 1)) hx hb dX1_accepts_81 (by decide +kernel) ?_
        refine ln_icmp_eq (tgt := 95) hx hb ⟨by omega, by omega⟩ dX1_accepts_82 (by decide) (fun c_82 => ?_) (fun c_82 => ?_)
        · have ha6 : acB k n b = false := by first | exact ac_at hf6 hlt _ (by rw [decide_eq_false (p := ¬ (lwS k b p9).length % 4 = 1) (fun q => q c_82)]; rfl) | exact ac_at hf6 hlt _ (by rw [bI_z.mp c_92, Bool.and_false])
          refine lv_iconst (v := (nI 0)) hx hb dX1_accepts_95 (by decide +kernel) ?_
          have hP9 := hP.sub (ws' := [(r0, .inr (1, [.ref fr, .int (nI (parB (lwS k b p9))), .int (nI ((lwS k b p9).length % 4))])), (fr, .inr (0, [.ref fq, .int (nI (3 * ((lwS k b p9).length / 4)))])), (fq, .inl (T 0, 440, .inl F1)), (h0, .inr (0, [.ref q0, .int (nI n)])), (q0, .inl (T 0, 440, .inl f))]) [0, 1, 2, 3, 4] rfl
          have hD9 := hD.sub (ws' := [(r0, .inr (1, [.ref fr, .int (nI (parB (lwS k b p9))), .int (nI ((lwS k b p9).length % 4))])), (fr, .inr (0, [.ref fq, .int (nI (3 * ((lwS k b p9).length / 4)))])), (fq, .inl (T 0, 440, .inl F1)), (h0, .inr (0, [.ref q0, .int (nI n)])), (q0, .inl (T 0, 440, .inl f))]) [0, 1, 2, 3, 4] (by decide) rfl
          exact W.zret (v := (nI 0)) (ty := .boolean) hx hb hr (rfl) (fun t ht hW => ⟨⟨(F1, 3 * ((lwS k b p9).length / 4), (nI (parB (lwS k b p9))), (nI ((lwS k b p9).length % 4))), congrArg (fun z => Outcome.returned (some (Value.int z))) (bI_f ha6), show (3 * ((lwS k b p9).length / 4)) ≤ 440 ∧ (acB k n b = true → (3 * ((lwS k b p9).length / 4)) = cnF k n b ∧ RB F1 (3 * ((lwS k b p9).length / 4)) (outB (lwF k n b))) from ⟨by omega, fun q => by rw [ha6] at q; cases q⟩, (by rw [ht]; exact hP9), va_K.moved hW.alike hK, hD9⟩, hS.F ht⟩) hS.2.2 dX1_accepts_96
        · refine lv_aload_n hx hb dX1_accepts_85 rfl (lv_at hl 0 rfl) ?_
          refine lv_aload_n hx hb dX1_accepts_86 rfl (lv_at hl 1 rfl) ?_
          refine lv_aload_n hx hb dX1_accepts_87 rfl (lv_at hl 2 rfl) ?_
          refine lv_iload_n hx hb dX1_accepts_88 rfl (lv_at hl 3 rfl) ?_
          refine ro_V (As := [.ref h0, .ref (g k), .int (nI p9)]) (rest := []) (wc := [(r0, .inr (1, [.ref fr, .int (nI (parB (lwS k b p9))), .int (nI ((lwS k b p9).length % 4))])), (h0, .inr (0, [.ref q0, .int (nI n)])), (q0, .inl (T 0, 440, .inl f))]) (r := .int (bI (ewB k n b p9 ((lwS k b p9).length % 4)))) ⟨hx, hb, hml, hown, hts⟩ (c_X1_isEndedWell l D T g r0 fr (nI (parB (lwS k b p9))) ((lwS k b p9).length % 4) h0 q0 f n k p9 b (hb9) hk (by omega)) (cwV 3 hts gX1_accepts_X1_isEndedWell rfl rfl rfl (by decide +kernel) ⟨Nat.le_of_ble_eq_true rfl, Nat.le_of_ble_eq_true rfl⟩) (va_recv hK hP (ci := 1) (q0 := 0) rfl rfl) hP hK hG hS [0, 3, 4] rfl ⟨Nat.zero_le _, Nat.zero_le _⟩ rfl hl.1 (Nat.le_of_ble_eq_true rfl) dX1_accepts_89 rfl ?_
          refine lv_if_ne (tgt := 97) hx hb dX1_accepts_92 (by decide) (fun c_92 => ?_) (fun c_92 => ?_)
          · refine lv_aload_n hx hb dX1_accepts_97 rfl (lv_at hl 0 rfl) ?_
            refine mu_V (As := []) (rest := []) (wc := [(r0, .inr (1, [.ref fr, .int (nI (parB (lwS k b p9))), .int (nI ((lwS k b p9).length % 4))])), (fr, .inr (0, [.ref fq, .int (nI (3 * ((lwS k b p9).length / 4)))])), (fq, .inl (T 0, 440, .inl F1))]) (wr := [(h0, .inr (0, [.ref q0, .int (nI n)])), (q0, .inl (T 0, 440, .inl f))]) ⟨hx, hb, hml, hown, hts⟩ (c_X1_release l D T g H.size r0 fr fq F1 (3 * ((lwS k b p9).length / 4)) (parB (lwS k b p9)) ((lwS k b p9).length % 4) (outB (lwS k b p9)) (hF) (by omega)) (cwV 0 hts gX1_accepts_X1_release rfl rfl rfl (by decide +kernel) ⟨Nat.le_of_ble_eq_true rfl, Nat.le_of_ble_eq_true rfl⟩) (va_recv hK hP (ci := 1) (q0 := 0) rfl rfl) hP hD hK hG hS hA [0, 1, 2] [3, 4] rfl (by decide) rfl (by decide) (by decide) ⟨Nat.le_of_ble_eq_true rfl, Nat.le_of_ble_eq_true rfl⟩ rfl hl.1 (Nat.le_of_ble_eq_true rfl) dX1_accepts_98 rfl (fun u H locs hq4 hP hD hS => ?_)
            obtain ⟨F1_3, hu9⟩ : ∃ z, z = u := ⟨_, rfl⟩
            subst hu9
            have hP : va_P D cls [(h0, .inr (0, [.ref q0, .int (nI n)])), (q0, .inl (T 0, 440, .inl f)), (r0, .inr (1, [.ref fr, .int (nI 0), .int (nI 0)])), (fr, .inr (0, [.ref fq, .int (nI ((3 * ((lwS k b p9).length / 4)) + ((lwS k b p9).length % 4) * 6 / 8))])), (fq, .inl (T 0, 440, .inl F1_3))] H := hP
            have hD : va_D A [(h0, .inr (0, [.ref q0, .int (nI n)])), (q0, .inl (T 0, 440, .inl f)), (r0, .inr (1, [.ref fr, .int (nI 0), .int (nI 0)])), (fr, .inr (0, [.ref fq, .int (nI ((3 * ((lwS k b p9).length / 4)) + ((lwS k b p9).length % 4) * 6 / 8))])), (fq, .inl (T 0, 440, .inl F1_3))] := hD
            have hq4 : RB F1_3 ((3 * ((lwS k b p9).length / 4)) + ((lwS k b p9).length % 4) * 6 / 8) (relN (outB (lwS k b p9)) (3 * ((lwS k b p9).length / 4)) (parB (lwS k b p9)) ((lwS k b p9).length % 4)) := hq4
            refine W.eq (g2 := F0 m 101 ls []) rfl ?_
            have ha6 : acB k n b = true := ac_at hf6 hlt _ (by rw [decide_eq_true (p := ¬ (lwS k b p9).length % 4 = 1) c_82, bI_nz.mp c_92]; rfl)
            refine lv_iconst (v := (nI 1)) hx hb dX1_accepts_101 (by decide +kernel) ?_
            have hP9 := hP.sub (ws' := [(r0, .inr (1, [.ref fr, .int (nI 0), .int (nI 0)])), (fr, .inr (0, [.ref fq, .int (nI ((3 * ((lwS k b p9).length / 4)) + ((lwS k b p9).length % 4) * 6 / 8))])), (fq, .inl (T 0, 440, .inl F1_3)), (h0, .inr (0, [.ref q0, .int (nI n)])), (q0, .inl (T 0, 440, .inl f))]) [2, 3, 4, 0, 1] rfl
            have hD9 := hD.sub (ws' := [(r0, .inr (1, [.ref fr, .int (nI 0), .int (nI 0)])), (fr, .inr (0, [.ref fq, .int (nI ((3 * ((lwS k b p9).length / 4)) + ((lwS k b p9).length % 4) * 6 / 8))])), (fq, .inl (T 0, 440, .inl F1_3)), (h0, .inr (0, [.ref q0, .int (nI n)])), (q0, .inl (T 0, 440, .inl f))]) [2, 3, 4, 0, 1] (by decide) rfl
            exact W.zret (v := (nI 1)) (ty := .boolean) hx hb hr (rfl) (fun t ht hW => ⟨⟨(F1_3, (3 * ((lwS k b p9).length / 4)) + ((lwS k b p9).length % 4) * 6 / 8, (nI 0), (nI 0)), congrArg (fun z => Outcome.returned (some (Value.int z))) (bI_t ha6), show ((3 * ((lwS k b p9).length / 4)) + ((lwS k b p9).length % 4) * 6 / 8) ≤ 440 ∧ (acB k n b = true → ((3 * ((lwS k b p9).length / 4)) + ((lwS k b p9).length % 4) * 6 / 8) = cnF k n b ∧ RB F1_3 ((3 * ((lwS k b p9).length / 4)) + ((lwS k b p9).length % 4) * 6 / 8) (outB (lwF k n b))) from ⟨by omega, fun _ => ⟨by unfold cnF lwF; rw [hf6]; omega, RB_cong hq4 (fun j hj => by unfold lwF; rw [hf6]; exact rel_end h64 c_82 (by omega))⟩⟩, (by rw [ht]; exact hP9), va_K.moved hW.alike hK, hD9⟩, hS.F ht⟩) hS.2.2 dX1_accepts_102
          · have ha6 : acB k n b = false := by first | exact ac_at hf6 hlt _ (by rw [decide_eq_false (p := ¬ (lwS k b p9).length % 4 = 1) (fun q => q c_82)]; rfl) | exact ac_at hf6 hlt _ (by rw [bI_z.mp c_92, Bool.and_false])
            refine lv_iconst (v := (nI 0)) hx hb dX1_accepts_95 (by decide +kernel) ?_
            have hP9 := hP.sub (ws' := [(r0, .inr (1, [.ref fr, .int (nI (parB (lwS k b p9))), .int (nI ((lwS k b p9).length % 4))])), (fr, .inr (0, [.ref fq, .int (nI (3 * ((lwS k b p9).length / 4)))])), (fq, .inl (T 0, 440, .inl F1)), (h0, .inr (0, [.ref q0, .int (nI n)])), (q0, .inl (T 0, 440, .inl f))]) [0, 1, 2, 3, 4] rfl
            have hD9 := hD.sub (ws' := [(r0, .inr (1, [.ref fr, .int (nI (parB (lwS k b p9))), .int (nI ((lwS k b p9).length % 4))])), (fr, .inr (0, [.ref fq, .int (nI (3 * ((lwS k b p9).length / 4)))])), (fq, .inl (T 0, 440, .inl F1)), (h0, .inr (0, [.ref q0, .int (nI n)])), (q0, .inl (T 0, 440, .inl f))]) [0, 1, 2, 3, 4] (by decide) rfl
            exact W.zret (v := (nI 0)) (ty := .boolean) hx hb hr (rfl) (fun t ht hW => ⟨⟨(F1, 3 * ((lwS k b p9).length / 4), (nI (parB (lwS k b p9))), (nI ((lwS k b p9).length % 4))), congrArg (fun z => Outcome.returned (some (Value.int z))) (bI_f ha6), show (3 * ((lwS k b p9).length / 4)) ≤ 440 ∧ (acB k n b = true → (3 * ((lwS k b p9).length / 4)) = cnF k n b ∧ RB F1 (3 * ((lwS k b p9).length / 4)) (outB (lwF k n b))) from ⟨by omega, fun q => by rw [ha6] at q; cases q⟩, (by rw [ht]; exact hP9), va_K.moved hW.alike hK, hD9⟩, hS.F ht⟩) hS.2.2 dX1_accepts_96
      · refine lv_aload_n hx hb dX1_accepts_27 rfl (lv_at hl 1 rfl) ?_
        refine lv_iload_n hx hb dX1_accepts_28 rfl (lv_at hl 3 rfl) ?_
        refine ro_V (As := [.int (nI p9)]) (rest := []) (wc := [(h0, .inr (0, [.ref q0, .int (nI n)])), (q0, .inl (T 0, 440, .inl f))]) (r := .int (nI (b p9))) ⟨hx, hb, hml, hown, hts⟩ (c_X2_atB l D T g h0 q0 f n p9 b hb9 (by omega)) (cwV 1 hts gX1_accepts_X2_at rfl rfl rfl (by decide +kernel) ⟨Nat.le_of_ble_eq_true rfl, Nat.le_of_ble_eq_true rfl⟩) (va_recv hK hP (ci := 0) (q0 := 3) rfl rfl) hP hK hG hS [3, 4] rfl ⟨Nat.zero_le _, Nat.zero_le _⟩ rfl hl.1 (Nat.le_of_ble_eq_true rfl) dX1_accepts_29 rfl ?_
        have hx1 := (hb9.2 p9 (by omega)).2
        refine lv_bipush (v := (nI 61)) hx hb dX1_accepts_32 (by decide +kernel) ?_
        refine ln_icmp_eq (tgt := 77) hx hb ⟨by omega, by omega⟩ dX1_accepts_34 (by decide) (fun c_34 => ?_) (fun c_34 => ?_)
        · have hf6 : fF n b = p9 := by first | exact fsN_eq hp hq (Or.inr (decide_eq_true c_34)) | exact fsN_eq hp hq (Or.inl (by omega))
          have h64 := lwS_64 k b p9
          have hp6 := parB_lt h64
          have hle6 := lwS_le k b p9
          refine lv_aload_n hx hb dX1_accepts_77 rfl (lv_at hl 0 rfl) ?_
          refine va_get (D := D) (ci := 1) (v := .int (nI ((lwS k b p9).length % 4))) (C := RX1) (T := TX1) (N := 3) hx hb hts hi_X1 hown hK hP 0 rfl rfl 2 (by decide) (hts _ (List.mem_of_getElem? (i := 3) rfl)) (fun _ h9 => h9) rfl dX1_accepts_78 ?_
          refine lv_iconst (v := (nI 1)) hx hb dX1_accepts_81 (by decide +kernel) ?_
          refine ln_icmp_eq (tgt := 95) hx hb ⟨by omega, by omega⟩ dX1_accepts_82 (by decide) (fun c_82 => ?_) (fun c_82 => ?_)
          · have ha6 : acB k n b = false := by first | exact ac_at hf6 hlt _ (by rw [decide_eq_false (p := ¬ (lwS k b p9).length % 4 = 1) (fun q => q c_82)]; rfl) | exact ac_at hf6 hlt _ (by rw [bI_z.mp c_92, Bool.and_false])
            refine lv_iconst (v := (nI 0)) hx hb dX1_accepts_95 (by decide +kernel) ?_
            have hP9 := hP.sub (ws' := [(r0, .inr (1, [.ref fr, .int (nI (parB (lwS k b p9))), .int (nI ((lwS k b p9).length % 4))])), (fr, .inr (0, [.ref fq, .int (nI (3 * ((lwS k b p9).length / 4)))])), (fq, .inl (T 0, 440, .inl F1)), (h0, .inr (0, [.ref q0, .int (nI n)])), (q0, .inl (T 0, 440, .inl f))]) [0, 1, 2, 3, 4] rfl
            have hD9 := hD.sub (ws' := [(r0, .inr (1, [.ref fr, .int (nI (parB (lwS k b p9))), .int (nI ((lwS k b p9).length % 4))])), (fr, .inr (0, [.ref fq, .int (nI (3 * ((lwS k b p9).length / 4)))])), (fq, .inl (T 0, 440, .inl F1)), (h0, .inr (0, [.ref q0, .int (nI n)])), (q0, .inl (T 0, 440, .inl f))]) [0, 1, 2, 3, 4] (by decide) rfl
            exact W.zret (v := (nI 0)) (ty := .boolean) hx hb hr (rfl) (fun t ht hW => ⟨⟨(F1, 3 * ((lwS k b p9).length / 4), (nI (parB (lwS k b p9))), (nI ((lwS k b p9).length % 4))), congrArg (fun z => Outcome.returned (some (Value.int z))) (bI_f ha6), show (3 * ((lwS k b p9).length / 4)) ≤ 440 ∧ (acB k n b = true → (3 * ((lwS k b p9).length / 4)) = cnF k n b ∧ RB F1 (3 * ((lwS k b p9).length / 4)) (outB (lwF k n b))) from ⟨by omega, fun q => by rw [ha6] at q; cases q⟩, (by rw [ht]; exact hP9), va_K.moved hW.alike hK, hD9⟩, hS.F ht⟩) hS.2.2 dX1_accepts_96
          · refine lv_aload_n hx hb dX1_accepts_85 rfl (lv_at hl 0 rfl) ?_
            refine lv_aload_n hx hb dX1_accepts_86 rfl (lv_at hl 1 rfl) ?_
            refine lv_aload_n hx hb dX1_accepts_87 rfl (lv_at hl 2 rfl) ?_
            refine lv_iload_n hx hb dX1_accepts_88 rfl (lv_at hl 3 rfl) ?_
            refine ro_V (As := [.ref h0, .ref (g k), .int (nI p9)]) (rest := []) (wc := [(r0, .inr (1, [.ref fr, .int (nI (parB (lwS k b p9))), .int (nI ((lwS k b p9).length % 4))])), (h0, .inr (0, [.ref q0, .int (nI n)])), (q0, .inl (T 0, 440, .inl f))]) (r := .int (bI (ewB k n b p9 ((lwS k b p9).length % 4)))) ⟨hx, hb, hml, hown, hts⟩ (c_X1_isEndedWell l D T g r0 fr (nI (parB (lwS k b p9))) ((lwS k b p9).length % 4) h0 q0 f n k p9 b (hb9) hk (by omega)) (cwV 3 hts gX1_accepts_X1_isEndedWell rfl rfl rfl (by decide +kernel) ⟨Nat.le_of_ble_eq_true rfl, Nat.le_of_ble_eq_true rfl⟩) (va_recv hK hP (ci := 1) (q0 := 0) rfl rfl) hP hK hG hS [0, 3, 4] rfl ⟨Nat.zero_le _, Nat.zero_le _⟩ rfl hl.1 (Nat.le_of_ble_eq_true rfl) dX1_accepts_89 rfl ?_
            refine lv_if_ne (tgt := 97) hx hb dX1_accepts_92 (by decide) (fun c_92 => ?_) (fun c_92 => ?_)
            · refine lv_aload_n hx hb dX1_accepts_97 rfl (lv_at hl 0 rfl) ?_
              refine mu_V (As := []) (rest := []) (wc := [(r0, .inr (1, [.ref fr, .int (nI (parB (lwS k b p9))), .int (nI ((lwS k b p9).length % 4))])), (fr, .inr (0, [.ref fq, .int (nI (3 * ((lwS k b p9).length / 4)))])), (fq, .inl (T 0, 440, .inl F1))]) (wr := [(h0, .inr (0, [.ref q0, .int (nI n)])), (q0, .inl (T 0, 440, .inl f))]) ⟨hx, hb, hml, hown, hts⟩ (c_X1_release l D T g H.size r0 fr fq F1 (3 * ((lwS k b p9).length / 4)) (parB (lwS k b p9)) ((lwS k b p9).length % 4) (outB (lwS k b p9)) (hF) (by omega)) (cwV 0 hts gX1_accepts_X1_release rfl rfl rfl (by decide +kernel) ⟨Nat.le_of_ble_eq_true rfl, Nat.le_of_ble_eq_true rfl⟩) (va_recv hK hP (ci := 1) (q0 := 0) rfl rfl) hP hD hK hG hS hA [0, 1, 2] [3, 4] rfl (by decide) rfl (by decide) (by decide) ⟨Nat.le_of_ble_eq_true rfl, Nat.le_of_ble_eq_true rfl⟩ rfl hl.1 (Nat.le_of_ble_eq_true rfl) dX1_accepts_98 rfl (fun u H locs hq6 hP hD hS => ?_)
              obtain ⟨F1_5, hu9⟩ : ∃ z, z = u := ⟨_, rfl⟩
              subst hu9
              have hP : va_P D cls [(h0, .inr (0, [.ref q0, .int (nI n)])), (q0, .inl (T 0, 440, .inl f)), (r0, .inr (1, [.ref fr, .int (nI 0), .int (nI 0)])), (fr, .inr (0, [.ref fq, .int (nI ((3 * ((lwS k b p9).length / 4)) + ((lwS k b p9).length % 4) * 6 / 8))])), (fq, .inl (T 0, 440, .inl F1_5))] H := hP
              have hD : va_D A [(h0, .inr (0, [.ref q0, .int (nI n)])), (q0, .inl (T 0, 440, .inl f)), (r0, .inr (1, [.ref fr, .int (nI 0), .int (nI 0)])), (fr, .inr (0, [.ref fq, .int (nI ((3 * ((lwS k b p9).length / 4)) + ((lwS k b p9).length % 4) * 6 / 8))])), (fq, .inl (T 0, 440, .inl F1_5))] := hD
              have hq6 : RB F1_5 ((3 * ((lwS k b p9).length / 4)) + ((lwS k b p9).length % 4) * 6 / 8) (relN (outB (lwS k b p9)) (3 * ((lwS k b p9).length / 4)) (parB (lwS k b p9)) ((lwS k b p9).length % 4)) := hq6
              refine W.eq (g2 := F0 m 101 ls []) rfl ?_
              have ha6 : acB k n b = true := ac_at hf6 hlt _ (by rw [decide_eq_true (p := ¬ (lwS k b p9).length % 4 = 1) c_82, bI_nz.mp c_92]; rfl)
              refine lv_iconst (v := (nI 1)) hx hb dX1_accepts_101 (by decide +kernel) ?_
              have hP9 := hP.sub (ws' := [(r0, .inr (1, [.ref fr, .int (nI 0), .int (nI 0)])), (fr, .inr (0, [.ref fq, .int (nI ((3 * ((lwS k b p9).length / 4)) + ((lwS k b p9).length % 4) * 6 / 8))])), (fq, .inl (T 0, 440, .inl F1_5)), (h0, .inr (0, [.ref q0, .int (nI n)])), (q0, .inl (T 0, 440, .inl f))]) [2, 3, 4, 0, 1] rfl
              have hD9 := hD.sub (ws' := [(r0, .inr (1, [.ref fr, .int (nI 0), .int (nI 0)])), (fr, .inr (0, [.ref fq, .int (nI ((3 * ((lwS k b p9).length / 4)) + ((lwS k b p9).length % 4) * 6 / 8))])), (fq, .inl (T 0, 440, .inl F1_5)), (h0, .inr (0, [.ref q0, .int (nI n)])), (q0, .inl (T 0, 440, .inl f))]) [2, 3, 4, 0, 1] (by decide) rfl
              exact W.zret (v := (nI 1)) (ty := .boolean) hx hb hr (rfl) (fun t ht hW => ⟨⟨(F1_5, (3 * ((lwS k b p9).length / 4)) + ((lwS k b p9).length % 4) * 6 / 8, (nI 0), (nI 0)), congrArg (fun z => Outcome.returned (some (Value.int z))) (bI_t ha6), show ((3 * ((lwS k b p9).length / 4)) + ((lwS k b p9).length % 4) * 6 / 8) ≤ 440 ∧ (acB k n b = true → ((3 * ((lwS k b p9).length / 4)) + ((lwS k b p9).length % 4) * 6 / 8) = cnF k n b ∧ RB F1_5 ((3 * ((lwS k b p9).length / 4)) + ((lwS k b p9).length % 4) * 6 / 8) (outB (lwF k n b))) from ⟨by omega, fun _ => ⟨by unfold cnF lwF; rw [hf6]; omega, RB_cong hq6 (fun j hj => by unfold lwF; rw [hf6]; exact rel_end h64 c_82 (by omega))⟩⟩, (by rw [ht]; exact hP9), va_K.moved hW.alike hK, hD9⟩, hS.F ht⟩) hS.2.2 dX1_accepts_102
            · have ha6 : acB k n b = false := by first | exact ac_at hf6 hlt _ (by rw [decide_eq_false (p := ¬ (lwS k b p9).length % 4 = 1) (fun q => q c_82)]; rfl) | exact ac_at hf6 hlt _ (by rw [bI_z.mp c_92, Bool.and_false])
              refine lv_iconst (v := (nI 0)) hx hb dX1_accepts_95 (by decide +kernel) ?_
              have hP9 := hP.sub (ws' := [(r0, .inr (1, [.ref fr, .int (nI (parB (lwS k b p9))), .int (nI ((lwS k b p9).length % 4))])), (fr, .inr (0, [.ref fq, .int (nI (3 * ((lwS k b p9).length / 4)))])), (fq, .inl (T 0, 440, .inl F1)), (h0, .inr (0, [.ref q0, .int (nI n)])), (q0, .inl (T 0, 440, .inl f))]) [0, 1, 2, 3, 4] rfl
              have hD9 := hD.sub (ws' := [(r0, .inr (1, [.ref fr, .int (nI (parB (lwS k b p9))), .int (nI ((lwS k b p9).length % 4))])), (fr, .inr (0, [.ref fq, .int (nI (3 * ((lwS k b p9).length / 4)))])), (fq, .inl (T 0, 440, .inl F1)), (h0, .inr (0, [.ref q0, .int (nI n)])), (q0, .inl (T 0, 440, .inl f))]) [0, 1, 2, 3, 4] (by decide) rfl
              exact W.zret (v := (nI 0)) (ty := .boolean) hx hb hr (rfl) (fun t ht hW => ⟨⟨(F1, 3 * ((lwS k b p9).length / 4), (nI (parB (lwS k b p9))), (nI ((lwS k b p9).length % 4))), congrArg (fun z => Outcome.returned (some (Value.int z))) (bI_f ha6), show (3 * ((lwS k b p9).length / 4)) ≤ 440 ∧ (acB k n b = true → (3 * ((lwS k b p9).length / 4)) = cnF k n b ∧ RB F1 (3 * ((lwS k b p9).length / 4)) (outB (lwF k n b))) from ⟨by omega, fun q => by rw [ha6] at q; cases q⟩, (by rw [ht]; exact hP9), va_K.moved hW.alike hK, hD9⟩, hS.F ht⟩) hS.2.2 dX1_accepts_96
        · refine lv_aload_n hx hb dX1_accepts_37 rfl (lv_at hl 2 rfl) ?_
          refine lv_aload_n hx hb dX1_accepts_38 rfl (lv_at hl 1 rfl) ?_
          refine lv_iload_n hx hb dX1_accepts_39 rfl (lv_at hl 3 rfl) ?_
          refine ro_V (As := [.int (nI p9)]) (rest := [.ref (g k)]) (wc := [(h0, .inr (0, [.ref q0, .int (nI n)])), (q0, .inl (T 0, 440, .inl f))]) (r := .int (nI (b p9))) ⟨hx, hb, hml, hown, hts⟩ (c_X2_atB l D T g h0 q0 f n p9 b hb9 (by omega)) (cwV 1 hts gX1_accepts_X2_at rfl rfl rfl (by decide +kernel) ⟨Nat.le_of_ble_eq_true rfl, Nat.le_of_ble_eq_true rfl⟩) (va_recv hK hP (ci := 0) (q0 := 3) rfl rfl) hP hK hG hS [3, 4] rfl ⟨Nat.zero_le _, Nat.zero_le _⟩ rfl hl.1 (Nat.le_of_ble_eq_true rfl) dX1_accepts_40 rfl ?_
          refine ro_V (As := [.int (nI (b p9))]) (rest := []) (wc := []) (r := .int (wV k (b p9))) ⟨hx, hb, hml, hown, hts⟩ (c_X0_worthOf l D T g k (b p9) hk ((hb9.2 p9 (by omega)).2)) (cwV 1 hts gX1_accepts_X0_worthOf rfl rfl rfl (by decide +kernel) ⟨Nat.le_of_ble_eq_true rfl, Nat.le_of_ble_eq_true rfl⟩) (va_recvE hG.1 (show _ < KN.length from hk) hS) hP hK hG hS [] rfl ⟨Nat.zero_le _, Nat.zero_le _⟩ rfl hl.1 (Nat.le_of_ble_eq_true rfl) dX1_accepts_43 rfl ?_
          refine lv_istore (lv' := [(4, .int (wV k (b p9))), (0, .ref r0), (1, .ref h0), (2, .ref (g k)), (3, .int (nI p9))]) hx hb dX1_accepts_46 hl (by decide) rfl (fun ls hl => ?_)
          refine lv_iload hx hb dX1_accepts_48 (lv_at hl 0 rfl) ?_
          refine lv_if_lt (tgt := 62) hx hb dX1_accepts_50 (by decide) (fun c_50 => ?_) (fun c_50 => ?_)
          · refine lv_aload_n hx hb dX1_accepts_62 rfl (lv_at hl 3 rfl) ?_
            refine va_getEN hx hb hG.1 (show _ < KN.length from hk) hS hown (q := FK[2]) (List.mem_of_getElem? (i := 2) rfl) (va_Nw.use rfl (hG.2.2.2.2.2.2.2.1 _ (List.mem_of_getElem? (i := 7) rfl))) (fun _ h9 => h9) dX1_accepts_63 ?_
            rw [show (FK[2]).2.2.2.getD k 0 = nI (kH k) from k_f2 _ (hk)]
            refine ln_if_ne (tgt := 71) hx hb (by omega) dX1_accepts_66 (by decide) (fun c_66 => ?_) (fun c_66 => ?_)
            · have hk6 : k = 2 := Decidable.not_not.mp (fun q => c_66 (kH_2.mpr q))
              have hl6 : isL k (b p9) = false := decide_eq_false (wV_neg.mp c_50)
              have e6 := lwS_n (b := b) hl6
              have hlt1 : k = 2 ∨ (lwS k b (p9 + 1)).length = p9 + 1 := Or.inl hk6
              have hF1 : RB F1 (3 * ((lwS k b (p9 + 1)).length / 4)) (outB (lwS k b (p9 + 1))) := by rw [e6]; exact hF
              refine lv_iinc (v := (nI (p9 + 1))) (lv' := [(3, .int (nI (p9 + 1))), (4, .int (wV k (b p9))), (0, .ref r0), (1, .ref h0), (2, .ref (g k))]) hx hb dX1_accepts_71 hl (k := 4) rfl (ni_inc1 _) (by decide) rfl (fun ls hl => ?_)
              refine lv_goto (tgt := 19) hx hb dX1_accepts_74 (by decide) ?_
              exact ih (p9 + 1) F1 (by omega) (fun j hj => by
                    by_cases e9 : j = p9
                    · subst e9; exact decide_eq_false c_34
                    · exact hq j (by omega)) (hlt1) (hF1) (by omega) _ _ (by rw [e6]; exact hP.sub (ws' := [(r0, .inr (1, [.ref fr, .int (nI (parB (lwS k b p9))), .int (nI ((lwS k b p9).length % 4))])), (fr, .inr (0, [.ref fq, .int (nI (3 * ((lwS k b p9).length / 4)))])), (fq, .inl (T 0, 440, .inl F1)), (h0, .inr (0, [.ref q0, .int (nI n)])), (q0, .inl (T 0, 440, .inl f))]) [0, 1, 2, 3, 4] rfl) (by rw [e6]; exact hD.sub (ws' := [(r0, .inr (1, [.ref fr, .int (nI (parB (lwS k b p9))), .int (nI ((lwS k b p9).length % 4))])), (fr, .inr (0, [.ref fq, .int (nI (3 * ((lwS k b p9).length / 4)))])), (fq, .inl (T 0, 440, .inl F1)), (h0, .inr (0, [.ref q0, .int (nI n)])), (q0, .inl (T 0, 440, .inl f))]) [0, 1, 2, 3, 4] (by decide) rfl) hS ls (lv_sub hl [2, 3, 4, 0] rfl)
            · have hle6 := lwS_le k b p9
              have ha6 : acB k n b = false := ac_no1 (kH_2.mp c_66) (by omega) hq c_34 (decide_eq_false (wV_neg.mp c_50))
              refine lv_iconst (v := (nI 0)) hx hb dX1_accepts_69 (by decide +kernel) ?_
              have hP9 := hP.sub (ws' := [(r0, .inr (1, [.ref fr, .int (nI (parB (lwS k b p9))), .int (nI ((lwS k b p9).length % 4))])), (fr, .inr (0, [.ref fq, .int (nI (3 * ((lwS k b p9).length / 4)))])), (fq, .inl (T 0, 440, .inl F1)), (h0, .inr (0, [.ref q0, .int (nI n)])), (q0, .inl (T 0, 440, .inl f))]) [0, 1, 2, 3, 4] rfl
              have hD9 := hD.sub (ws' := [(r0, .inr (1, [.ref fr, .int (nI (parB (lwS k b p9))), .int (nI ((lwS k b p9).length % 4))])), (fr, .inr (0, [.ref fq, .int (nI (3 * ((lwS k b p9).length / 4)))])), (fq, .inl (T 0, 440, .inl F1)), (h0, .inr (0, [.ref q0, .int (nI n)])), (q0, .inl (T 0, 440, .inl f))]) [0, 1, 2, 3, 4] (by decide) rfl
              exact W.zret (v := (nI 0)) (ty := .boolean) hx hb hr (rfl) (fun t ht hW => ⟨⟨(F1, 3 * ((lwS k b p9).length / 4), (nI (parB (lwS k b p9))), (nI ((lwS k b p9).length % 4))), congrArg (fun z => Outcome.returned (some (Value.int z))) (bI_f ha6), show (3 * ((lwS k b p9).length / 4)) ≤ 440 ∧ (acB k n b = true → (3 * ((lwS k b p9).length / 4)) = cnF k n b ∧ RB F1 (3 * ((lwS k b p9).length / 4)) (outB (lwF k n b))) from ⟨by omega, fun q => by rw [ha6] at q; cases q⟩, (by rw [ht]; exact hP9), va_K.moved hW.alike hK, hD9⟩, hS.F ht⟩) hS.2.2 dX1_accepts_70
          · have hw6 : wN k (b p9) < 64 := Decidable.not_not.mp (fun q => c_50 (wV_neg.mpr q))
            have hl6 : isL k (b p9) = true := decide_eq_true hw6
            have e6 := lwS_y (b := b) hl6
            have h64 := lwS_64 k b p9
            have hp6 := parB_lt h64
            have hle6 := lwS_le k b p9
            have hlt1 : k = 2 ∨ (lwS k b (p9 + 1)).length = p9 + 1 := hlt.imp id (fun q => by rw [e6, lenA, q])
            rw [wV_pos hw6] at hl
            by_cases hs6 : (lwS k b p9).length % 4 = 3
            · rw [hs6] at hP hD
              refine lv_aload_n hx hb dX1_accepts_53 rfl (lv_at hl 1 rfl) ?_
              refine lv_iload hx hb dX1_accepts_54 (lv_at hl 0 rfl) ?_
              refine mu_V (As := [.int (nI (wN k (b p9)))]) (rest := []) (wc := [(r0, .inr (1, [.ref fr, .int (nI (parB (lwS k b p9))), .int (nI 3)])), (fr, .inr (0, [.ref fq, .int (nI (3 * ((lwS k b p9).length / 4)))])), (fq, .inl (T 0, 440, .inl F1))]) (wr := [(h0, .inr (0, [.ref q0, .int (nI n)])), (q0, .inl (T 0, 440, .inl f))]) ⟨hx, hb, hml, hown, hts⟩ (c_X1_take_b l D T g H.size r0 fr fq F1 (3 * ((lwS k b p9).length / 4)) (parB (lwS k b p9)) (wN k (b p9)) (outB (lwS k b p9)) hF (by omega)) (cwV 1 hts gX1_accepts_X1_take rfl rfl rfl (by decide +kernel) ⟨Nat.le_of_ble_eq_true rfl, Nat.le_of_ble_eq_true rfl⟩) (va_recv hK hP (ci := 1) (q0 := 0) rfl rfl) hP hD hK hG hS hA [0, 1, 2] [3, 4] rfl (by decide) rfl (by decide) (by decide) ⟨Nat.le_of_ble_eq_true rfl, Nat.le_of_ble_eq_true rfl⟩ rfl hl.1 (Nat.le_of_ble_eq_true rfl) dX1_accepts_56 rfl (fun u H locs hq8 hP hD hS => ?_)
              obtain ⟨F1_7, hu9⟩ : ∃ z, z = u := ⟨_, rfl⟩
              subst hu9
              have hP : va_P D cls [(h0, .inr (0, [.ref q0, .int (nI n)])), (q0, .inl (T 0, 440, .inl f)), (r0, .inr (1, [.ref fr, .int (nI 0), .int (nI 0)])), (fr, .inr (0, [.ref fq, .int (nI ((3 * ((lwS k b p9).length / 4)) + 3))])), (fq, .inl (T 0, 440, .inl F1_7))] H := hP
              have hD : va_D A [(h0, .inr (0, [.ref q0, .int (nI n)])), (q0, .inl (T 0, 440, .inl f)), (r0, .inr (1, [.ref fr, .int (nI 0), .int (nI 0)])), (fr, .inr (0, [.ref fq, .int (nI ((3 * ((lwS k b p9).length / 4)) + 3))])), (fq, .inl (T 0, 440, .inl F1_7))] := hD
              have hq8 : RB F1_7 ((3 * ((lwS k b p9).length / 4)) + 3) (relN (outB (lwS k b p9)) (3 * ((lwS k b p9).length / 4)) ((parB (lwS k b p9)) * 64 + (wN k (b p9))) 4) := hq8
              refine W.eq (g2 := F0 m 59 ls []) rfl ?_
              refine lv_goto (tgt := 71) hx hb dX1_accepts_59 (by decide) ?_
              refine lv_iinc (v := (nI (p9 + 1))) (lv' := [(3, .int (nI (p9 + 1))), (4, .int (nI (wN k (b p9)))), (0, .ref r0), (1, .ref h0), (2, .ref (g k))]) hx hb dX1_accepts_71 hl (k := 4) rfl (ni_inc1 _) (by decide) rfl (fun ls hl => ?_)
              refine lv_goto (tgt := 19) hx hb dX1_accepts_74 (by decide) ?_
              have b1 : parB (lwS k b (p9 + 1)) = 0 := parB_0 (by rw [e6, lenA]; omega)
              have b2 : (lwS k b (p9 + 1)).length % 4 = 0 := by rw [e6, lenA]; omega
              have b3 : 3 * ((lwS k b (p9 + 1)).length / 4) = 3 * ((lwS k b p9).length / 4) + 3 := by rw [e6, lenA]; omega
              have hF1 : RB F1_7 (3 * ((lwS k b (p9 + 1)).length / 4)) (outB (lwS k b (p9 + 1))) := by
                rw [b3]
                exact RB_cong hq8 (fun j hj => by rw [e6]; exact rel4 h64 hw6 hs6 hj)
              exact ih (p9 + 1) F1_7 (by omega) (fun j hj => by
                    by_cases e9 : j = p9
                    · subst e9; exact decide_eq_false c_34
                    · exact hq j (by omega)) (hlt1) (hF1) (by omega) _ _ (by rw [b1, b2, b3]; exact hP.sub (ws' := [(r0, .inr (1, [.ref fr, .int (nI 0), .int (nI 0)])), (fr, .inr (0, [.ref fq, .int (nI ((3 * ((lwS k b p9).length / 4)) + 3))])), (fq, .inl (T 0, 440, .inl F1_7)), (h0, .inr (0, [.ref q0, .int (nI n)])), (q0, .inl (T 0, 440, .inl f))]) [2, 3, 4, 0, 1] rfl) (by rw [b1, b2, b3]; exact hD.sub (ws' := [(r0, .inr (1, [.ref fr, .int (nI 0), .int (nI 0)])), (fr, .inr (0, [.ref fq, .int (nI ((3 * ((lwS k b p9).length / 4)) + 3))])), (fq, .inl (T 0, 440, .inl F1_7)), (h0, .inr (0, [.ref q0, .int (nI n)])), (q0, .inl (T 0, 440, .inl f))]) [2, 3, 4, 0, 1] (by decide) rfl) hS ls (lv_sub hl [2, 3, 4, 0] rfl)
            · refine lv_aload_n hx hb dX1_accepts_53 rfl (lv_at hl 1 rfl) ?_
              refine lv_iload hx hb dX1_accepts_54 (lv_at hl 0 rfl) ?_
              refine mu_V (As := [.int (nI (wN k (b p9)))]) (rest := []) (wc := [(r0, .inr (1, [.ref fr, .int (nI (parB (lwS k b p9))), .int (nI ((lwS k b p9).length % 4))])), (fr, .inr (0, [.ref fq, .int (nI (3 * ((lwS k b p9).length / 4)))])), (fq, .inl (T 0, 440, .inl F1))]) (wr := [(h0, .inr (0, [.ref q0, .int (nI n)])), (q0, .inl (T 0, 440, .inl f))]) ⟨hx, hb, hml, hown, hts⟩ (c_X1_take_a l D T g H.size r0 fr fq F1 (3 * ((lwS k b p9).length / 4)) (parB (lwS k b p9)) ((lwS k b p9).length % 4) (wN k (b p9)) (by omega)) (cwV 1 hts gX1_accepts_X1_take rfl rfl rfl (by decide +kernel) ⟨Nat.le_of_ble_eq_true rfl, Nat.le_of_ble_eq_true rfl⟩) (va_recv hK hP (ci := 1) (q0 := 0) rfl rfl) hP hD hK hG hS hA [0, 1, 2] [3, 4] rfl (by decide) rfl (by decide) (by decide) ⟨Nat.le_of_ble_eq_true rfl, Nat.le_of_ble_eq_true rfl⟩ rfl hl.1 (Nat.le_of_ble_eq_true rfl) dX1_accepts_56 rfl (fun u H locs hq9 hP hD hS => ?_)
              have hP : va_P D cls [(h0, .inr (0, [.ref q0, .int (nI n)])), (q0, .inl (T 0, 440, .inl f)), (r0, .inr (1, [.ref fr, .int (nI ((parB (lwS k b p9)) * 64 + (wN k (b p9)))), .int (nI (((lwS k b p9).length % 4) + 1))])), (fr, .inr (0, [.ref fq, .int (nI (3 * ((lwS k b p9).length / 4)))])), (fq, .inl (T 0, 440, .inl F1))] H := hP
              have hD : va_D A [(h0, .inr (0, [.ref q0, .int (nI n)])), (q0, .inl (T 0, 440, .inl f)), (r0, .inr (1, [.ref fr, .int (nI ((parB (lwS k b p9)) * 64 + (wN k (b p9)))), .int (nI (((lwS k b p9).length % 4) + 1))])), (fr, .inr (0, [.ref fq, .int (nI (3 * ((lwS k b p9).length / 4)))])), (fq, .inl (T 0, 440, .inl F1))] := hD
              refine W.eq (g2 := F0 m 59 ls []) rfl ?_
              refine lv_goto (tgt := 71) hx hb dX1_accepts_59 (by decide) ?_
              refine lv_iinc (v := (nI (p9 + 1))) (lv' := [(3, .int (nI (p9 + 1))), (4, .int (nI (wN k (b p9)))), (0, .ref r0), (1, .ref h0), (2, .ref (g k))]) hx hb dX1_accepts_71 hl (k := 4) rfl (ni_inc1 _) (by decide) rfl (fun ls hl => ?_)
              refine lv_goto (tgt := 19) hx hb dX1_accepts_74 (by decide) ?_
              have b1 : parB (lwS k b (p9 + 1)) = parB (lwS k b p9) * 64 + wN k (b p9) := by rw [e6]; exact parB_app (by omega)
              have b2 : (lwS k b (p9 + 1)).length % 4 = (lwS k b p9).length % 4 + 1 := by rw [e6, lenA]; omega
              have b3 : 3 * ((lwS k b (p9 + 1)).length / 4) = 3 * ((lwS k b p9).length / 4) := by rw [e6, lenA]; omega
              have hF1 : RB F1 (3 * ((lwS k b (p9 + 1)).length / 4)) (outB (lwS k b (p9 + 1))) := by
                rw [b3]
                exact RB_cong hF (fun j hj => by rw [e6]; exact (outB_app hj).symm)
              exact ih (p9 + 1) F1 (by omega) (fun j hj => by
                    by_cases e9 : j = p9
                    · subst e9; exact decide_eq_false c_34
                    · exact hq j (by omega)) (hlt1) (hF1) (by omega) _ _ (by rw [b1, b2, b3]; exact hP.sub (ws' := [(r0, .inr (1, [.ref fr, .int (nI ((parB (lwS k b p9)) * 64 + (wN k (b p9)))), .int (nI (((lwS k b p9).length % 4) + 1))])), (fr, .inr (0, [.ref fq, .int (nI (3 * ((lwS k b p9).length / 4)))])), (fq, .inl (T 0, 440, .inl F1)), (h0, .inr (0, [.ref q0, .int (nI n)])), (q0, .inl (T 0, 440, .inl f))]) [2, 3, 4, 0, 1] rfl) (by rw [b1, b2, b3]; exact hD.sub (ws' := [(r0, .inr (1, [.ref fr, .int (nI ((parB (lwS k b p9)) * 64 + (wN k (b p9)))), .int (nI (((lwS k b p9).length % 4) + 1))])), (fr, .inr (0, [.ref fq, .int (nI (3 * ((lwS k b p9).length / 4)))])), (fq, .inl (T 0, 440, .inl F1)), (h0, .inr (0, [.ref q0, .int (nI n)])), (q0, .inl (T 0, 440, .inl f))]) [2, 3, 4, 0, 1] (by decide) rfl) hS ls (lv_sub hl [2, 3, 4, 0] rfl)
  exact K2 _ 0 F (by omega) (fun j hj => absurd hj (Nat.not_lt_zero _)) (Or.inr rfl) (by rw [b3]; exact RB_zero _ _) (Nat.lt_succ_self _) H locs (by rw [b1, b2, b3]; exact hP.sub (ws' := [(r0, .inr (1, [.ref fr, .int (nI 0), .int (nI 0)])), (fr, .inr (0, [.ref fq, .int (nI 0)])), (fq, .inl (T 0, 440, .inl F)), (h0, .inr (0, [.ref q0, .int (nI n)])), (q0, .inl (T 0, 440, .inl f))]) [0, 3, 4, 1, 2] rfl) (by rw [b1, b2, b3]; exact hD.sub (ws' := [(r0, .inr (1, [.ref fr, .int (nI 0), .int (nI 0)])), (fr, .inr (0, [.ref fq, .int (nI 0)])), (fq, .inl (T 0, 440, .inl F)), (h0, .inr (0, [.ref q0, .int (nI n)])), (q0, .inl (T 0, 440, .inl f))]) [0, 3, 4, 1, 2] (by decide) rfl) hS ls (lv_sub hl [1, 2, 3, 0] rfl)
