set_option maxHeartbeats 4000000 in
set_option maxRecDepth 100000 in
/-- takes bytes out -/
theorem c_X2_takeOut (l : Launch) (D : va_G) (T : Nat → ClassId) (g : Nat → Nat) (sz : Nat) (h0 : Nat) (q0 : Nat) (f : Nat → Int32) (n : Nat) (p9 : Nat) (m9 : Nat) (b : Nat → Nat) (hb9 : RB f n b) (hp : p9 + m9 ≤ n ∧ n ≤ 440) : MU l yX2_takeOut wsX2_takeOut ({ frames := 1, cells := 0, slots := 0, locals := 22 } : Room) D T g [.ref h0, .int (nI p9), .int (nI m9)] [(h0, .inr (0, [.ref q0, .int (nI n)])), (q0, .inl (T 0, 440, .inl f))] sz (fun u : Nat → Int32 => none) (fun u : Nat → Int32 => RB u (n - m9) (delN b p9 m9)) (fun u : Nat → Int32 => [(h0, .inr (0, [.ref q0, .int (nI (n - m9))])), (q0, .inl (T 0, 440, .inl u))]) 0 0 := by
  refine Met.ofW (cc := cX2_takeOut) (maxL := 4) (ret := none) (by decide) rfl ?_
  intro p e s m args below meth c s₁ B hml hv
  obtain ⟨rfl, hsz, hP, hK, hD0, hG⟩ := hv
  have hx := B.exec
  have hb := B.bytes
  have hr := B.returns
  have hts := atoms_spec (ws := wsX2_takeOut) B.pre
  have hown : s.vm.findClass RX2 = some m.cls := findClass_of_methodNamed B.named
  have hlocks := B.notSynchronized
  have hi_X2 : ∀ w ∈ wsX20, w ∈ wsX2_takeOut := by decide +kernel
  subst hsz
  have hD := hD0.self (sz := s.heap.size)
  generalize hAe : va_A [(h0, .inr (0, [.ref q0, .int (nI n)])), (q0, .inl (T 0, 440, .inl f))] s.heap.size = A at hD hG ⊢
  have hA : ∀ q : Nat, s.heap.size ≤ q → A q := fun q h => by rw [← hAe]; exact Or.inr h
  have hS : va_S A s.heap s.heap [] := va_S.rf
  have hP : va_P D cls [(h0, .inr (0, [.ref q0, .int (nI n)])), (q0, .inl (T 0, 440, .inl f))] s.heap := hP
  have hl := lv_entry ([.ref h0, .int (nI p9), .int (nI m9)]) (n := 4) (Nat.le_of_ble_eq_true rfl)
  rw [lg_entry_eq]
  generalize (lg_sl ([.ref h0, .int (nI p9), .int (nI m9)]) ++ List.replicate (4 - (lg_sl ([.ref h0, .int (nI p9), .int (nI m9)])).length) Slot.unset).toArray = ls at hl ⊢
  have hl : lv_has ls 4 [(0, .ref h0), (1, .int (nI p9)), (2, .int (nI m9))] := hl
  refine lv_iload_n hx hb dX2_takeOut_0 rfl (lv_at hl 1 rfl) ?_
  refine lv_istore_n (lv' := [(3, .int (nI p9)), (0, .ref h0), (1, .int (nI p9)), (2, .int (nI m9))]) hx hb dX2_takeOut_1 rfl hl (by decide) rfl (fun ls hl => ?_)
  have K1 : ∀ (N9 : Nat) (i : Nat) (F : Nat → Int32) (B : Nat → Nat), (p9 ≤ i ∧ i ≤ n - m9) → (RB F n B) → (∀ j, j < i → B j = delN b p9 m9 j) → (∀ j, i ≤ j → B j = b j) → n - i < N9 → ∀ (H : Heap) (locs : List Loc), va_P D cls [(h0, .inr (0, [.ref q0, .int (nI n)])), (q0, .inl (T 0, 440, .inl F))] H → va_D A [(h0, .inr (0, [.ref q0, .int (nI n)])), (q0, .inl (T 0, 440, .inl F))] → va_S A s.heap H locs → ∀ ls : Array Slot, lv_has ls 4 [(0, .ref h0), (1, .int (nI p9)), (2, .int (nI m9)), (3, .int (nI i))] → W p l e (headSpec wsX2_takeOut ({ frames := 1, cells := 0, slots := 0, locals := 22 } : Room)).room s m ([.ref h0, .int (nI p9), .int (nI m9)] : List Value).toArray below meth c H locs 0 0 (MQ below (QM D T A (fun u : Nat → Int32 => none) (fun u : Nat → Int32 => RB u (n - m9) (delN b p9 m9)) (fun u : Nat → Int32 => [(h0, .inr (0, [.ref q0, .int (nI (n - m9))])), (q0, .inl (T 0, 440, .inl u))])) ([.ref h0, .int (nI p9), .int (nI m9)] : List Value).toArray s 0 0 A) (F0 m 2 ls []) := by
    intro N9
    induction N9 with
    | zero => intro i F B hi hF hlo hhi h9; exact absurd h9 (Nat.not_lt_zero _)
    | succ N9 ih =>
      intro i F B hi hF hlo hhi h9 H locs hP hD hS ls hl
      refine lv_iload_n hx hb dX2_takeOut_2 rfl (lv_at hl 3 rfl) ?_
      refine lv_aload_n hx hb dX2_takeOut_3 rfl (lv_at hl 0 rfl) ?_
      refine va_get (D := D) (ci := 0) (v := .int (nI n)) (C := RX2) (T := TX2) (N := 2) hx hb hts hi_X2 hown hK hP 0 rfl rfl 1 (by decide) (hts _ (List.mem_of_getElem? (i := 1) rfl)) (fun _ h9 => h9) rfl dX2_takeOut_4 ?_
      refine lv_iload_n hx hb dX2_takeOut_7 rfl (lv_at hl 2 rfl) ?_
      refine ln_sub hx hb (by omega) dX2_takeOut_8 ?_
      refine ln_icmp_ge (tgt := 30) hx hb ⟨by omega, by omega⟩ dX2_takeOut_9 (by decide) (fun c_9 => ?_) (fun c_9 => ?_)
      · refine lv_aload_n hx hb dX2_takeOut_30 rfl (lv_at hl 0 rfl) ?_
        refine lv_aload_n hx hb dX2_takeOut_31 rfl (lv_at hl 0 rfl) ?_
        refine va_get (D := D) (ci := 0) (v := .int (nI n)) (C := RX2) (T := TX2) (N := 2) hx hb hts hi_X2 hown hK hP 0 rfl rfl 1 (by decide) (hts _ (List.mem_of_getElem? (i := 1) rfl)) (fun _ h9 => h9) rfl dX2_takeOut_32 ?_
        refine lv_iload_n hx hb dX2_takeOut_35 rfl (lv_at hl 2 rfl) ?_
        refine ln_sub hx hb (by omega) dX2_takeOut_36 ?_
        refine mu_V (As := [.int (nI (n - m9))]) (rest := []) (wc := [(h0, .inr (0, [.ref q0, .int (nI n)])), (q0, .inl (T 0, 440, .inl F))]) (wr := []) ⟨hx, hb, hml, hown, hts⟩ (c_X2_cutTo l D T g H.size h0 q0 F n (n - m9) (by omega)) (cwV 1 hts gX2_takeOut_X2_cutTo rfl rfl rfl (by decide +kernel) ⟨Nat.le_of_ble_eq_true rfl, Nat.le_of_ble_eq_true rfl⟩) (va_recv hK hP (ci := 0) (q0 := 0) rfl rfl) hP hD hK hG hS hA [0, 1] [] rfl (by decide) rfl (by decide) (by decide) ⟨Nat.le_of_ble_eq_true rfl, Nat.le_of_ble_eq_true rfl⟩ rfl hl.1 (Nat.le_of_ble_eq_true rfl) dX2_takeOut_37 rfl (fun u H locs hq2 hP hD hS => ?_)
        have hP : va_P D cls [(h0, .inr (0, [.ref q0, .int (nI (n - m9))])), (q0, .inl (T 0, 440, .inl F))] H := hP
        have hD : va_D A [(h0, .inr (0, [.ref q0, .int (nI (n - m9))])), (q0, .inl (T 0, 440, .inl F))] := hD
        refine W.eq (g2 := F0 m 40 ls []) rfl ?_
        have hP9 := hP.sub (ws' := [(h0, .inr (0, [.ref q0, .int (nI (n - m9))])), (q0, .inl (T 0, 440, .inl F))]) [0, 1] rfl
        have hD9 := hD.sub (ws' := [(h0, .inr (0, [.ref q0, .int (nI (n - m9))])), (q0, .inl (T 0, 440, .inl F))]) [0, 1] (by decide) rfl
        exact W.vret hx hb hr (fun t ht hW => ⟨⟨F, rfl, RB_cong (RB_less hF (by omega)) (fun j hj => hlo j (by omega)), (by rw [ht]; exact hP9), va_K.moved hW.alike hK, hD9⟩, hS.F ht⟩) hS.2.2 dX2_takeOut_40
      · refine lv_aload_n hx hb dX2_takeOut_12 rfl (lv_at hl 0 rfl) ?_
        refine lv_iload_n hx hb dX2_takeOut_13 rfl (lv_at hl 3 rfl) ?_
        refine lv_aload_n hx hb dX2_takeOut_14 rfl (lv_at hl 0 rfl) ?_
        refine lv_iload_n hx hb dX2_takeOut_15 rfl (lv_at hl 3 rfl) ?_
        refine lv_iload_n hx hb dX2_takeOut_16 rfl (lv_at hl 2 rfl) ?_
        refine ln_add hx hb dX2_takeOut_17 ?_
        refine ro_V (As := [.int (nI (i + m9))]) (rest := [.int (nI i), .ref h0]) (wc := [(h0, .inr (0, [.ref q0, .int (nI n)])), (q0, .inl (T 0, 440, .inl F))]) (r := .int (nI (B (i + m9)))) ⟨hx, hb, hml, hown, hts⟩ (c_X2_atB l D T g h0 q0 F n (i + m9) B hF (by omega)) (cwV 1 hts gX2_takeOut_X2_at rfl rfl rfl (by decide +kernel) ⟨Nat.le_of_ble_eq_true rfl, Nat.le_of_ble_eq_true rfl⟩) (va_recv hK hP (ci := 0) (q0 := 0) rfl rfl) hP hK hG hS [0, 1] rfl ⟨Nat.zero_le _, Nat.zero_le _⟩ rfl hl.1 (Nat.le_of_ble_eq_true rfl) dX2_takeOut_18 rfl ?_
        refine mu_V (As := [.int (nI i), .int (nI (B (i + m9)))]) (rest := []) (wc := [(h0, .inr (0, [.ref q0, .int (nI n)])), (q0, .inl (T 0, 440, .inl F))]) (wr := []) ⟨hx, hb, hml, hown, hts⟩ (c_X2_replace l D T g H.size h0 q0 F n i (nI (B (i + m9))) (by omega)) (cwV 2 hts gX2_takeOut_X2_replace rfl rfl rfl (by decide +kernel) ⟨Nat.le_of_ble_eq_true rfl, Nat.le_of_ble_eq_true rfl⟩) (va_recv hK hP (ci := 0) (q0 := 0) rfl rfl) hP hD hK hG hS hA [0, 1] [] rfl (by decide) rfl (by decide) (by decide) ⟨Nat.le_of_ble_eq_true rfl, Nat.le_of_ble_eq_true rfl⟩ rfl hl.1 (Nat.le_of_ble_eq_true rfl) dX2_takeOut_21 rfl (fun u H locs hq3 hP hD hS => ?_)
        have hP : va_P D cls [(h0, .inr (0, [.ref q0, .int (nI n)])), (q0, .inl (T 0, 440, .inl (upd F i (nI (B (i + m9))))))] H := hP
        have hD : va_D A [(h0, .inr (0, [.ref q0, .int (nI n)])), (q0, .inl (T 0, 440, .inl (upd F i (nI (B (i + m9))))))] := hD
        refine W.eq (g2 := F0 m 24 ls []) rfl ?_
        refine lv_iinc (v := (nI (i + 1))) (lv' := [(3, .int (nI (i + 1))), (0, .ref h0), (1, .int (nI p9)), (2, .int (nI m9))]) hx hb dX2_takeOut_24 hl (k := 3) rfl (ni_inc1 _) (by decide) rfl (fun ls hl => ?_)
        refine lv_goto (tgt := 2) hx hb dX2_takeOut_27 (by decide) ?_
        exact ih (i + 1) (upd F i (nI (B (i + m9)))) (upN B i (B (i + m9))) (by omega) (RB_upd hF _ (hF.2 _ (by omega)).2) (fun j hj => by
              by_cases e9 : j = i
              · subst e9; simp only [upN, if_true, delN]; rw [if_neg (by omega)]; exact hhi _ (by omega)
              · simp only [upN, if_neg e9]; exact hlo j (by omega)) (fun j hj => (if_neg (by omega)).trans (hhi j (by omega))) (by omega) _ _ (hP.sub (ws' := [(h0, .inr (0, [.ref q0, .int (nI n)])), (q0, .inl (T 0, 440, .inl (upd F i (nI (B (i + m9))))))]) [0, 1] rfl) (hD.sub (ws' := [(h0, .inr (0, [.ref q0, .int (nI n)])), (q0, .inl (T 0, 440, .inl (upd F i (nI (B (i + m9))))))]) [0, 1] (by decide) rfl) hS ls (lv_sub hl [1, 2, 3, 0] rfl)
  exact K1 _ p9 f b (by omega) (hb9) (fun j hj => (if_pos hj).symm) (fun j hj => rfl) (Nat.lt_succ_self _) _ _ (hP.sub (ws' := [(h0, .inr (0, [.ref q0, .int (nI n)])), (q0, .inl (T 0, 440, .inl f))]) [0, 1] rfl) (hD.sub (ws' := [(h0, .inr (0, [.ref q0, .int (nI n)])), (q0, .inl (T 0, 440, .inl f))]) [0, 1] (by decide) rfl) hS ls (lv_sub hl [1, 2, 3, 0] rfl)
set_option maxHeartbeats 4000000 in
set_option maxRecDepth 100000 in
/-- becomes another row -/
theorem c_X2_become (l : Launch) (D : va_G) (T : Nat → ClassId) (g : Nat → Nat) (sz : Nat) (h0 : Nat) (q0 : Nat) (f : Nat → Int32) (n : Nat) (h1 : Nat) (q1 : Nat) (f1 : Nat → Int32) (n1 : Nat) (b : Nat → Nat) (hb9 : RB f1 n1 b) : MU l yX2_become wsX2_become ({ frames := 1, cells := 0, slots := 0, locals := 21 } : Room) D T g [.ref h0, .ref h1] [(h0, .inr (0, [.ref q0, .int (nI n)])), (q0, .inl (T 0, 440, .inl f)), (h1, .inr (0, [.ref q1, .int (nI n1)])), (q1, .inl (T 0, 440, .inl f1))] sz (fun u : Nat → Int32 => none) (fun u : Nat → Int32 => RB u n1 b) (fun u : Nat → Int32 => [(h0, .inr (0, [.ref q0, .int (nI n1)])), (q0, .inl (T 0, 440, .inl u)), (h1, .inr (0, [.ref q1, .int (nI n1)])), (q1, .inl (T 0, 440, .inl f1))]) 0 0 := by
  refine Met.ofW (cc := cX2_become) (maxL := 3) (ret := none) (by decide) rfl ?_
  intro p e s m args below meth c s₁ B hml hv
  obtain ⟨rfl, hsz, hP, hK, hD0, hG⟩ := hv
  have hx := B.exec
  have hb := B.bytes
  have hr := B.returns
  have hts := atoms_spec (ws := wsX2_become) B.pre
  have hown : s.vm.findClass RX2 = some m.cls := findClass_of_methodNamed B.named
  have hlocks := B.notSynchronized
  have hi_X2 : ∀ w ∈ wsX20, w ∈ wsX2_become := by decide +kernel
  subst hsz
  have hD := hD0.self (sz := s.heap.size)
  generalize hAe : va_A [(h0, .inr (0, [.ref q0, .int (nI n)])), (q0, .inl (T 0, 440, .inl f)), (h1, .inr (0, [.ref q1, .int (nI n1)])), (q1, .inl (T 0, 440, .inl f1))] s.heap.size = A at hD hG ⊢
  have hA : ∀ q : Nat, s.heap.size ≤ q → A q := fun q h => by rw [← hAe]; exact Or.inr h
  have hS : va_S A s.heap s.heap [] := va_S.rf
  have hP : va_P D cls [(h0, .inr (0, [.ref q0, .int (nI n)])), (q0, .inl (T 0, 440, .inl f)), (h1, .inr (0, [.ref q1, .int (nI n1)])), (q1, .inl (T 0, 440, .inl f1))] s.heap := hP
  have hl := lv_entry ([.ref h0, .ref h1]) (n := 3) (Nat.le_of_ble_eq_true rfl)
  rw [lg_entry_eq]
  generalize (lg_sl ([.ref h0, .ref h1]) ++ List.replicate (3 - (lg_sl ([.ref h0, .ref h1])).length) Slot.unset).toArray = ls at hl ⊢
  have hl : lv_has ls 3 [(0, .ref h0), (1, .ref h1)] := hl
  have hn1 := hb9.1
  have hne : ¬ h1 = h0 := fun e9 => absurd (hD.1 2 0 _ _ rfl rfl e9) (by decide)
  refine lv_aload_n hx hb dX2_become_0 rfl (lv_at hl 1 rfl) ?_
  refine lv_aload_n hx hb dX2_become_1 rfl (lv_at hl 0 rfl) ?_
  refine W.eq (g2 := F0 m 2 ls (va_rf (some h0) :: va_rf (some h1) :: [])) rfl ?_
  refine lv_acmp_ne (tgt := 6) hx hb dX2_become_2 (by decide) (fun _ => ?_) (fun q9 => absurd (Option.some.inj q9) (hne))
  refine lv_aload_n hx hb dX2_become_6 rfl (lv_at hl 0 rfl) ?_
  refine mu_V (As := []) (rest := []) (wc := [(h0, .inr (0, [.ref q0, .int (nI n)])), (q0, .inl (T 0, 440, .inl f))]) (wr := [(h1, .inr (0, [.ref q1, .int (nI n1)])), (q1, .inl (T 0, 440, .inl f1))]) ⟨hx, hb, hml, hown, hts⟩ (c_X2_clear l D T g s.heap.size h0 q0 f n) (cwV 0 hts gX2_become_X2_clear rfl rfl rfl (by decide +kernel) ⟨Nat.le_of_ble_eq_true rfl, Nat.le_of_ble_eq_true rfl⟩) (va_recv hK hP (ci := 0) (q0 := 0) rfl rfl) hP hD hK hG hS hA [0, 1] [2, 3] rfl (by decide) rfl (by decide) (by decide) ⟨Nat.le_of_ble_eq_true rfl, Nat.le_of_ble_eq_true rfl⟩ rfl hl.1 (Nat.le_of_ble_eq_true rfl) dX2_become_7 rfl (fun u H locs hq1 hP hD hS => ?_)
  have hP : va_P D cls [(h1, .inr (0, [.ref q1, .int (nI n1)])), (q1, .inl (T 0, 440, .inl f1)), (h0, .inr (0, [.ref q0, .int (nI 0)])), (q0, .inl (T 0, 440, .inl f))] H := hP
  have hD : va_D A [(h1, .inr (0, [.ref q1, .int (nI n1)])), (q1, .inl (T 0, 440, .inl f1)), (h0, .inr (0, [.ref q0, .int (nI 0)])), (q0, .inl (T 0, 440, .inl f))] := hD
  refine W.eq (g2 := F0 m 10 ls []) rfl ?_
  refine lv_iconst (v := (nI 0)) hx hb dX2_become_10 (by decide +kernel) ?_
  refine lv_istore_n (lv' := [(2, .int (nI 0)), (0, .ref h0), (1, .ref h1)]) hx hb dX2_become_11 rfl hl (by decide) rfl (fun ls hl => ?_)
  have K2 : ∀ (N9 : Nat) (i : Nat) (F : Nat → Int32), (i ≤ n1) → (RB F i b) → n1 - i < N9 → ∀ (H : Heap) (locs : List Loc), va_P D cls [(h0, .inr (0, [.ref q0, .int (nI i)])), (q0, .inl (T 0, 440, .inl F)), (h1, .inr (0, [.ref q1, .int (nI n1)])), (q1, .inl (T 0, 440, .inl f1))] H → va_D A [(h0, .inr (0, [.ref q0, .int (nI i)])), (q0, .inl (T 0, 440, .inl F)), (h1, .inr (0, [.ref q1, .int (nI n1)])), (q1, .inl (T 0, 440, .inl f1))] → va_S A s.heap H locs → ∀ ls : Array Slot, lv_has ls 3 [(0, .ref h0), (1, .ref h1), (2, .int (nI i))] → W p l e (headSpec wsX2_become ({ frames := 1, cells := 0, slots := 0, locals := 21 } : Room)).room s m ([.ref h0, .ref h1] : List Value).toArray below meth c H locs 0 0 (MQ below (QM D T A (fun u : Nat → Int32 => none) (fun u : Nat → Int32 => RB u n1 b) (fun u : Nat → Int32 => [(h0, .inr (0, [.ref q0, .int (nI n1)])), (q0, .inl (T 0, 440, .inl u)), (h1, .inr (0, [.ref q1, .int (nI n1)])), (q1, .inl (T 0, 440, .inl f1))])) ([.ref h0, .ref h1] : List Value).toArray s 0 0 A) (F0 m 12 ls []) := by
    intro N9
    induction N9 with
    | zero => intro i F hi hF h9; exact absurd h9 (Nat.not_lt_zero _)
    | succ N9 ih =>
      intro i F hi hF h9 H locs hP hD hS ls hl
      refine lv_iload_n hx hb dX2_become_12 rfl (lv_at hl 2 rfl) ?_
      refine lv_aload_n hx hb dX2_become_13 rfl (lv_at hl 1 rfl) ?_
      refine va_get (D := D) (ci := 0) (v := .int (nI n1)) (C := RX2) (T := TX2) (N := 2) hx hb hts hi_X2 hown hK hP 2 rfl rfl 1 (by decide) (hts _ (List.mem_of_getElem? (i := 1) rfl)) (fun _ h9 => h9) rfl dX2_become_14 ?_
      refine ln_icmp_ge (tgt := 35) hx hb ⟨by omega, by omega⟩ dX2_become_17 (by decide) (fun c_17 => ?_) (fun c_17 => ?_)
      · have e9 : n1 = i := by omega
        subst e9
        have hP9 := hP.sub (ws' := [(h0, .inr (0, [.ref q0, .int (nI n1)])), (q0, .inl (T 0, 440, .inl F)), (h1, .inr (0, [.ref q1, .int (nI n1)])), (q1, .inl (T 0, 440, .inl f1))]) [0, 1, 2, 3] rfl
        have hD9 := hD.sub (ws' := [(h0, .inr (0, [.ref q0, .int (nI n1)])), (q0, .inl (T 0, 440, .inl F)), (h1, .inr (0, [.ref q1, .int (nI n1)])), (q1, .inl (T 0, 440, .inl f1))]) [0, 1, 2, 3] (by decide) rfl
        exact W.vret hx hb hr (fun t ht hW => ⟨⟨F, rfl, hF, (by rw [ht]; exact hP9), va_K.moved hW.alike hK, hD9⟩, hS.F ht⟩) hS.2.2 dX2_become_35
      · refine lv_aload_n hx hb dX2_become_20 rfl (lv_at hl 0 rfl) ?_
        refine lv_aload_n hx hb dX2_become_21 rfl (lv_at hl 1 rfl) ?_
        refine lv_iload_n hx hb dX2_become_22 rfl (lv_at hl 2 rfl) ?_
        refine ro_V (As := [.int (nI i)]) (rest := [.ref h0]) (wc := [(h1, .inr (0, [.ref q1, .int (nI n1)])), (q1, .inl (T 0, 440, .inl f1))]) (r := .int (nI (b i))) ⟨hx, hb, hml, hown, hts⟩ (c_X2_atB l D T g h1 q1 f1 n1 i b hb9 (by omega)) (cwV 1 hts gX2_become_X2_at rfl rfl rfl (by decide +kernel) ⟨Nat.le_of_ble_eq_true rfl, Nat.le_of_ble_eq_true rfl⟩) (va_recv hK hP (ci := 0) (q0 := 2) rfl rfl) hP hK hG hS [2, 3] rfl ⟨Nat.zero_le _, Nat.zero_le _⟩ rfl hl.1 (Nat.le_of_ble_eq_true rfl) dX2_become_23 rfl ?_
        refine mu_V (As := [.int (nI (b i))]) (rest := []) (wc := [(h0, .inr (0, [.ref q0, .int (nI i)])), (q0, .inl (T 0, 440, .inl F))]) (wr := [(h1, .inr (0, [.ref q1, .int (nI n1)])), (q1, .inl (T 0, 440, .inl f1))]) ⟨hx, hb, hml, hown, hts⟩ (c_X2_append l D T g H.size h0 q0 F i (nI (b i)) (by omega)) (cwV 1 hts gX2_become_X2_append rfl rfl rfl (by decide +kernel) ⟨Nat.le_of_ble_eq_true rfl, Nat.le_of_ble_eq_true rfl⟩) (va_recv hK hP (ci := 0) (q0 := 0) rfl rfl) hP hD hK hG hS hA [0, 1] [2, 3] rfl (by decide) rfl (by decide) (by decide) ⟨Nat.le_of_ble_eq_true rfl, Nat.le_of_ble_eq_true rfl⟩ rfl hl.1 (Nat.le_of_ble_eq_true rfl) dX2_become_26 rfl (fun u H locs hq3 hP hD hS => ?_)
        have hP : va_P D cls [(h1, .inr (0, [.ref q1, .int (nI n1)])), (q1, .inl (T 0, 440, .inl f1)), (h0, .inr (0, [.ref q0, .int (nI (i + 1))])), (q0, .inl (T 0, 440, .inl (upd F i (nI (b i)))))] H := hP
        have hD : va_D A [(h1, .inr (0, [.ref q1, .int (nI n1)])), (q1, .inl (T 0, 440, .inl f1)), (h0, .inr (0, [.ref q0, .int (nI (i + 1))])), (q0, .inl (T 0, 440, .inl (upd F i (nI (b i)))))] := hD
        refine W.eq (g2 := F0 m 29 ls []) rfl ?_
        refine lv_iinc (v := (nI (i + 1))) (lv' := [(2, .int (nI (i + 1))), (0, .ref h0), (1, .ref h1)]) hx hb dX2_become_29 hl (k := 2) rfl (ni_inc1 _) (by decide) rfl (fun ls hl => ?_)
        refine lv_goto (tgt := 12) hx hb dX2_become_32 (by decide) ?_
        exact ih (i + 1) (upd F i (nI (b i))) (by omega) (RB_next hF (by omega) rfl (hb9.2 _ (by omega)).2) (by omega) _ _ (hP.sub (ws' := [(h0, .inr (0, [.ref q0, .int (nI (i + 1))])), (q0, .inl (T 0, 440, .inl (upd F i (nI (b i))))), (h1, .inr (0, [.ref q1, .int (nI n1)])), (q1, .inl (T 0, 440, .inl f1))]) [2, 3, 0, 1] rfl) (hD.sub (ws' := [(h0, .inr (0, [.ref q0, .int (nI (i + 1))])), (q0, .inl (T 0, 440, .inl (upd F i (nI (b i))))), (h1, .inr (0, [.ref q1, .int (nI n1)])), (q1, .inl (T 0, 440, .inl f1))]) [2, 3, 0, 1] (by decide) rfl) hS ls (lv_sub hl [1, 2, 0] rfl)
  exact K2 _ 0 f (by omega) (RB_zero _ _) (Nat.lt_succ_self _) H locs (hP.sub (ws' := [(h0, .inr (0, [.ref q0, .int (nI 0)])), (q0, .inl (T 0, 440, .inl f)), (h1, .inr (0, [.ref q1, .int (nI n1)])), (q1, .inl (T 0, 440, .inl f1))]) [2, 3, 0, 1] rfl) (hD.sub (ws' := [(h0, .inr (0, [.ref q0, .int (nI 0)])), (q0, .inl (T 0, 440, .inl f)), (h1, .inr (0, [.ref q1, .int (nI n1)])), (q1, .inl (T 0, 440, .inl f1))]) [2, 3, 0, 1] (by decide) rfl) hS ls (lv_sub hl [1, 2, 0] rfl)
set_option maxHeartbeats 4000000 in
set_option maxRecDepth 100000 in
/-- becomes itself -/
theorem c_X2_become_a (l : Launch) (D : va_G) (T : Nat → ClassId) (g : Nat → Nat) (sz : Nat) (h0 : Nat) (q0 : Nat) (f : Nat → Int32) (n : Nat) : MU l yX2_become wsX2_become ({ frames := 0, cells := 0, slots := 0, locals := 0 } : Room) D T g [.ref h0, .ref h0] [(h0, .inr (0, [.ref q0, .int (nI n)])), (q0, .inl (T 0, 440, .inl f))] sz (fun u : Unit => none) (fun u : Unit => True) (fun u : Unit => [(h0, .inr (0, [.ref q0, .int (nI n)])), (q0, .inl (T 0, 440, .inl f))]) 0 0 := by
  refine Met.ofW (cc := cX2_become) (maxL := 3) (ret := none) (by decide) rfl ?_
  intro p e s m args below meth c s₁ B hml hv
  obtain ⟨rfl, hsz, hP, hK, hD0, hG⟩ := hv
  have hx := B.exec
  have hb := B.bytes
  have hr := B.returns
  have hts := atoms_spec (ws := wsX2_become) B.pre
  have hown : s.vm.findClass RX2 = some m.cls := findClass_of_methodNamed B.named
  have hlocks := B.notSynchronized
  subst hsz
  have hD := hD0.self (sz := s.heap.size)
  generalize hAe : va_A [(h0, .inr (0, [.ref q0, .int (nI n)])), (q0, .inl (T 0, 440, .inl f))] s.heap.size = A at hD hG ⊢
  have hA : ∀ q : Nat, s.heap.size ≤ q → A q := fun q h => by rw [← hAe]; exact Or.inr h
  have hS : va_S A s.heap s.heap [] := va_S.rf
  have hP : va_P D cls [(h0, .inr (0, [.ref q0, .int (nI n)])), (q0, .inl (T 0, 440, .inl f))] s.heap := hP
  have hl := lv_entry ([.ref h0, .ref h0]) (n := 3) (Nat.le_of_ble_eq_true rfl)
  rw [lg_entry_eq]
  generalize (lg_sl ([.ref h0, .ref h0]) ++ List.replicate (3 - (lg_sl ([.ref h0, .ref h0])).length) Slot.unset).toArray = ls at hl ⊢
  have hl : lv_has ls 3 [(0, .ref h0), (1, .ref h0)] := hl
  refine lv_aload_n hx hb dX2_become_0 rfl (lv_at hl 1 rfl) ?_
  refine lv_aload_n hx hb dX2_become_1 rfl (lv_at hl 0 rfl) ?_
  refine W.eq (g2 := F0 m 2 ls (va_rf (some h0) :: va_rf (some h0) :: [])) rfl ?_
  refine lv_acmp_ne (tgt := 6) hx hb dX2_become_2 (by decide) (fun q9 => absurd (congrArg some (rfl)) q9) (fun _ => ?_)
  have hP9 := hP.sub (ws' := [(h0, .inr (0, [.ref q0, .int (nI n)])), (q0, .inl (T 0, 440, .inl f))]) [0, 1] rfl
  have hD9 := hD.sub (ws' := [(h0, .inr (0, [.ref q0, .int (nI n)])), (q0, .inl (T 0, 440, .inl f))]) [0, 1] (by decide) rfl
  exact W.vret hx hb hr (fun t ht hW => ⟨⟨(), rfl, trivial, (by rw [ht]; exact hP9), va_K.moved hW.alike hK, hD9⟩, hS.F ht⟩) hS.2.2 dX2_become_5
set_option maxHeartbeats 4000000 in
set_option maxRecDepth 100000 in
/-- whether it begins with another -/
theorem c_X2_beginsWith (l : Launch) (D : va_G) (T : Nat → ClassId) (g : Nat → Nat) (h0 : Nat) (q0 : Nat) (f : Nat → Int32) (n : Nat) (h1 : Nat) (q1 : Nat) (f1 : Nat → Int32) (n1 : Nat) (b : Nat → Nat) (b1 : Nat → Nat) (hb9 : RB f n b) (hb8 : RB f1 n1 b1) : RO l yX2_beginsWith wsX2_beginsWith ({ frames := 1, cells := 0, slots := 0, locals := 21 } : Room) D T g [.ref h0, .ref h1] [(h0, .inr (0, [.ref q0, .int (nI n)])), (q0, .inl (T 0, 440, .inl f)), (h1, .inr (0, [.ref q1, .int (nI n1)])), (q1, .inl (T 0, 440, .inl f1))] (.int (bI (bwB n b n1 b1))) := by
  refine Met.ofW (cc := cX2_beginsWith) (maxL := 3) (ret := (some .boolean)) (by decide) rfl ?_
  intro p e s m args below meth c s₁ B hml hv
  obtain ⟨rfl, hP, hK, hG⟩ := hv
  have hx := B.exec
  have hb := B.bytes
  have hr := B.returns
  have hts := atoms_spec (ws := wsX2_beginsWith) B.pre
  have hown : s.vm.findClass RX2 = some m.cls := findClass_of_methodNamed B.named
  have hlocks := B.notSynchronized
  have hi_X2 : ∀ w ∈ wsX20, w ∈ wsX2_beginsWith := by decide +kernel
  have hS : va_S (fun _ => False) s.heap s.heap [] := va_S.rf
  have hl := lv_entry ([.ref h0, .ref h1]) (n := 3) (Nat.le_of_ble_eq_true rfl)
  rw [lg_entry_eq]
  generalize (lg_sl ([.ref h0, .ref h1]) ++ List.replicate (3 - (lg_sl ([.ref h0, .ref h1])).length) Slot.unset).toArray = ls at hl ⊢
  have hl : lv_has ls 3 [(0, .ref h0), (1, .ref h1)] := hl
  have hn := hb9.1
  have hn1 := hb8.1
  refine lv_aload_n hx hb dX2_beginsWith_0 rfl (lv_at hl 0 rfl) ?_
  refine va_get (D := D) (ci := 0) (v := .int (nI n)) (C := RX2) (T := TX2) (N := 2) hx hb hts hi_X2 hown hK hP 0 rfl rfl 1 (by decide) (hts _ (List.mem_of_getElem? (i := 1) rfl)) (fun _ h9 => h9) rfl dX2_beginsWith_1 ?_
  refine lv_aload_n hx hb dX2_beginsWith_4 rfl (lv_at hl 1 rfl) ?_
  refine va_get (D := D) (ci := 0) (v := .int (nI n1)) (C := RX2) (T := TX2) (N := 2) hx hb hts hi_X2 hown hK hP 2 rfl rfl 1 (by decide) (hts _ (List.mem_of_getElem? (i := 1) rfl)) (fun _ h9 => h9) rfl dX2_beginsWith_5 ?_
  refine ln_icmp_ge (tgt := 13) hx hb ⟨by omega, by omega⟩ dX2_beginsWith_8 (by decide) (fun c_8 => ?_) (fun c_8 => ?_)
  · refine lv_iconst (v := (nI 0)) hx hb dX2_beginsWith_13 (by decide +kernel) ?_
    refine lv_istore_n (lv' := [(2, .int (nI 0)), (0, .ref h0), (1, .ref h1)]) hx hb dX2_beginsWith_14 rfl hl (by decide) rfl (fun ls hl => ?_)
    have K1 : ∀ (N9 : Nat) (i : Nat), (i ≤ n1) → (∀ j, j < i → b j = b1 j) → n1 - i < N9 → ∀ ls : Array Slot, lv_has ls 3 [(0, .ref h0), (1, .ref h1), (2, .int (nI i))] → W p l e (headSpec wsX2_beginsWith ({ frames := 1, cells := 0, slots := 0, locals := 21 } : Room)).room s m ([.ref h0, .ref h1] : List Value).toArray below meth c s.heap [] 0 0 (MQ below (k2_QcV (.int (bI (bwB n b n1 b1)))) ([.ref h0, .ref h1] : List Value).toArray s 0 0 (fun _ => False)) (F0 m 15 ls []) := by
      intro N9
      induction N9 with
      | zero => intro i hi hq h9; exact absurd h9 (Nat.not_lt_zero _)
      | succ N9 ih =>
        intro i hi hq h9 ls hl
        refine lv_iload_n hx hb dX2_beginsWith_15 rfl (lv_at hl 2 rfl) ?_
        refine lv_aload_n hx hb dX2_beginsWith_16 rfl (lv_at hl 1 rfl) ?_
        refine va_get (D := D) (ci := 0) (v := .int (nI n1)) (C := RX2) (T := TX2) (N := 2) hx hb hts hi_X2 hown hK hP 2 rfl rfl 1 (by decide) (hts _ (List.mem_of_getElem? (i := 1) rfl)) (fun _ h9 => h9) rfl dX2_beginsWith_17 ?_
        refine ln_icmp_ge (tgt := 44) hx hb ⟨by omega, by omega⟩ dX2_beginsWith_20 (by decide) (fun c_20 => ?_) (fun c_20 => ?_)
        · refine lv_iconst (v := (nI 1)) hx hb dX2_beginsWith_44 (by decide +kernel) ?_
          exact W.zret (v := (nI 1)) (ty := .boolean) hx hb hr (rfl) (fun t ht hW => ⟨(congrArg (fun z => Outcome.returned (some (Value.int z))) (show (nI 1) = (bI (bwB n b n1 b1)) from bI_t (decide_eq_true ⟨by omega, fun j hj => hq j (by omega)⟩))), ht⟩) (fun q h => nomatch h) dX2_beginsWith_45
        · refine lv_aload_n hx hb dX2_beginsWith_23 rfl (lv_at hl 0 rfl) ?_
          refine lv_iload_n hx hb dX2_beginsWith_24 rfl (lv_at hl 2 rfl) ?_
          refine ro_V (As := [.int (nI i)]) (rest := []) (wc := [(h0, .inr (0, [.ref q0, .int (nI n)])), (q0, .inl (T 0, 440, .inl f))]) (r := .int (nI (b i))) ⟨hx, hb, hml, hown, hts⟩ (c_X2_atB l D T g h0 q0 f n i b hb9 (by omega)) (cwV 1 hts gX2_beginsWith_X2_at rfl rfl rfl (by decide +kernel) ⟨Nat.le_of_ble_eq_true rfl, Nat.le_of_ble_eq_true rfl⟩) (va_recv hK hP (ci := 0) (q0 := 0) rfl rfl) hP hK hG hS [0, 1] rfl ⟨Nat.zero_le _, Nat.zero_le _⟩ rfl hl.1 (Nat.le_of_ble_eq_true rfl) dX2_beginsWith_25 rfl ?_
          refine lv_aload_n hx hb dX2_beginsWith_28 rfl (lv_at hl 1 rfl) ?_
          refine lv_iload_n hx hb dX2_beginsWith_29 rfl (lv_at hl 2 rfl) ?_
          refine ro_V (As := [.int (nI i)]) (rest := [.int (nI (b i))]) (wc := [(h1, .inr (0, [.ref q1, .int (nI n1)])), (q1, .inl (T 0, 440, .inl f1))]) (r := .int (nI (b1 i))) ⟨hx, hb, hml, hown, hts⟩ (c_X2_atB l D T g h1 q1 f1 n1 i b1 hb8 (by omega)) (cwV 1 hts gX2_beginsWith_X2_at rfl rfl rfl (by decide +kernel) ⟨Nat.le_of_ble_eq_true rfl, Nat.le_of_ble_eq_true rfl⟩) (va_recv hK hP (ci := 0) (q0 := 2) rfl rfl) hP hK hG hS [2, 3] rfl ⟨Nat.zero_le _, Nat.zero_le _⟩ rfl hl.1 (Nat.le_of_ble_eq_true rfl) dX2_beginsWith_30 rfl ?_
          have hx1 := (hb9.2 i (by omega)).2
          have hx2 := (hb8.2 i (by omega)).2
          refine ln_icmp_eq (tgt := 38) hx hb ⟨by omega, by omega⟩ dX2_beginsWith_33 (by decide) (fun c_33 => ?_) (fun c_33 => ?_)
          · refine lv_iinc (v := (nI (i + 1))) (lv' := [(2, .int (nI (i + 1))), (0, .ref h0), (1, .ref h1)]) hx hb dX2_beginsWith_38 hl (k := 2) rfl (ni_inc1 _) (by decide) rfl (fun ls hl => ?_)
            refine lv_goto (tgt := 15) hx hb dX2_beginsWith_41 (by decide) ?_
            exact ih (i + 1) (by omega) (fun j hj => by
                  by_cases e9 : j = i
                  · subst e9; assumption
                  · exact hq j (by omega)) (by omega) ls (lv_sub hl [1, 2, 0] rfl)
          · refine lv_iconst (v := (nI 0)) hx hb dX2_beginsWith_36 (by decide +kernel) ?_
            exact W.zret (v := (nI 0)) (ty := .boolean) hx hb hr (rfl) (fun t ht hW => ⟨(congrArg (fun z => Outcome.returned (some (Value.int z))) (show (nI 0) = (bI (bwB n b n1 b1)) from bI_f (decide_eq_false (fun q9 => c_33 (q9.2 i (by omega)))))), ht⟩) (fun q h => nomatch h) dX2_beginsWith_37
    exact K1 _ 0 (by omega) (fun j hj => absurd hj (Nat.not_lt_zero _)) (Nat.lt_succ_self _) ls (lv_sub hl [1, 2, 0] rfl)
  · refine lv_iconst (v := (nI 0)) hx hb dX2_beginsWith_11 (by decide +kernel) ?_
    exact W.zret (v := (nI 0)) (ty := .boolean) hx hb hr (rfl) (fun t ht hW => ⟨(congrArg (fun z => Outcome.returned (some (Value.int z))) (show (nI 0) = (bI (bwB n b n1 b1)) from bI_f (decide_eq_false (fun q9 => by omega)))), ht⟩) (fun q h => nomatch h) dX2_beginsWith_12
set_option maxHeartbeats 4000000 in
set_option maxRecDepth 100000 in
theorem c_X2_beginsWith_a (l : Launch) (D : va_G) (T : Nat → ClassId) (g : Nat → Nat) (h0 : Nat) (q0 : Nat) (f : Nat → Int32) (n : Nat) (b : Nat → Nat) (hb9 : RB f n b) : RO l yX2_beginsWith wsX2_beginsWith ({ frames := 1, cells := 0, slots := 0, locals := 21 } : Room) D T g [.ref h0, .ref h0] [(h0, .inr (0, [.ref q0, .int (nI n)])), (q0, .inl (T 0, 440, .inl f))] (.int (nI 1)) := by
  refine Met.ofW (cc := cX2_beginsWith) (maxL := 3) (ret := (some .boolean)) (by decide) rfl ?_
  intro p e s m args below meth c s₁ B hml hv
  obtain ⟨rfl, hP, hK, hG⟩ := hv
  have hx := B.exec
  have hb := B.bytes
  have hr := B.returns
  have hts := atoms_spec (ws := wsX2_beginsWith) B.pre
  have hown : s.vm.findClass RX2 = some m.cls := findClass_of_methodNamed B.named
  have hlocks := B.notSynchronized
  have hi_X2 : ∀ w ∈ wsX20, w ∈ wsX2_beginsWith := by decide +kernel
  have hS : va_S (fun _ => False) s.heap s.heap [] := va_S.rf
  have hl := lv_entry ([.ref h0, .ref h0]) (n := 3) (Nat.le_of_ble_eq_true rfl)
  rw [lg_entry_eq]
  generalize (lg_sl ([.ref h0, .ref h0]) ++ List.replicate (3 - (lg_sl ([.ref h0, .ref h0])).length) Slot.unset).toArray = ls at hl ⊢
  have hl : lv_has ls 3 [(0, .ref h0), (1, .ref h0)] := hl
  have hn := hb9.1
  refine lv_aload_n hx hb dX2_beginsWith_0 rfl (lv_at hl 0 rfl) ?_
  refine va_get (D := D) (ci := 0) (v := .int (nI n)) (C := RX2) (T := TX2) (N := 2) hx hb hts hi_X2 hown hK hP 0 rfl rfl 1 (by decide) (hts _ (List.mem_of_getElem? (i := 1) rfl)) (fun _ h9 => h9) rfl dX2_beginsWith_1 ?_
  refine lv_aload_n hx hb dX2_beginsWith_4 rfl (lv_at hl 1 rfl) ?_
  refine va_get (D := D) (ci := 0) (v := .int (nI n)) (C := RX2) (T := TX2) (N := 2) hx hb hts hi_X2 hown hK hP 0 rfl rfl 1 (by decide) (hts _ (List.mem_of_getElem? (i := 1) rfl)) (fun _ h9 => h9) rfl dX2_beginsWith_5 ?_
  refine ln_icmp_ge_t (tgt := 13) hx hb ⟨by omega, by omega⟩ (Nat.le_refl _) dX2_beginsWith_8 (by decide) ?_
  refine lv_iconst (v := (nI 0)) hx hb dX2_beginsWith_13 (by decide +kernel) ?_
  refine lv_istore_n (lv' := [(2, .int (nI 0)), (0, .ref h0), (1, .ref h0)]) hx hb dX2_beginsWith_14 rfl hl (by decide) rfl (fun ls hl => ?_)
  have K1 : ∀ (N9 : Nat) (i : Nat), (i ≤ n) → n - i < N9 → ∀ ls : Array Slot, lv_has ls 3 [(0, .ref h0), (1, .ref h0), (2, .int (nI i))] → W p l e (headSpec wsX2_beginsWith ({ frames := 1, cells := 0, slots := 0, locals := 21 } : Room)).room s m ([.ref h0, .ref h0] : List Value).toArray below meth c s.heap [] 0 0 (MQ below (k2_QcV (.int (nI 1))) ([.ref h0, .ref h0] : List Value).toArray s 0 0 (fun _ => False)) (F0 m 15 ls []) := by
    intro N9
    induction N9 with
    | zero => intro i hi h9; exact absurd h9 (Nat.not_lt_zero _)
    | succ N9 ih =>
      intro i hi h9 ls hl
      refine lv_iload_n hx hb dX2_beginsWith_15 rfl (lv_at hl 2 rfl) ?_
      refine lv_aload_n hx hb dX2_beginsWith_16 rfl (lv_at hl 1 rfl) ?_
      refine va_get (D := D) (ci := 0) (v := .int (nI n)) (C := RX2) (T := TX2) (N := 2) hx hb hts hi_X2 hown hK hP 0 rfl rfl 1 (by decide) (hts _ (List.mem_of_getElem? (i := 1) rfl)) (fun _ h9 => h9) rfl dX2_beginsWith_17 ?_
      refine ln_icmp_ge (tgt := 44) hx hb ⟨by omega, by omega⟩ dX2_beginsWith_20 (by decide) (fun c_20 => ?_) (fun c_20 => ?_)
      · refine lv_iconst (v := (nI 1)) hx hb dX2_beginsWith_44 (by decide +kernel) ?_
        exact W.zret (v := (nI 1)) (ty := .boolean) hx hb hr (rfl) (fun t ht hW => ⟨(congrArg (fun z => Outcome.returned (some (Value.int z))) (show (nI 1) = (nI 1) from rfl)), ht⟩) (fun q h => nomatch h) dX2_beginsWith_45
      · refine lv_aload_n hx hb dX2_beginsWith_23 rfl (lv_at hl 0 rfl) ?_
        refine lv_iload_n hx hb dX2_beginsWith_24 rfl (lv_at hl 2 rfl) ?_
        refine ro_V (As := [.int (nI i)]) (rest := []) (wc := [(h0, .inr (0, [.ref q0, .int (nI n)])), (q0, .inl (T 0, 440, .inl f))]) (r := .int (nI (b i))) ⟨hx, hb, hml, hown, hts⟩ (c_X2_atB l D T g h0 q0 f n i b hb9 (by omega)) (cwV 1 hts gX2_beginsWith_X2_at rfl rfl rfl (by decide +kernel) ⟨Nat.le_of_ble_eq_true rfl, Nat.le_of_ble_eq_true rfl⟩) (va_recv hK hP (ci := 0) (q0 := 0) rfl rfl) hP hK hG hS [0, 1] rfl ⟨Nat.zero_le _, Nat.zero_le _⟩ rfl hl.1 (Nat.le_of_ble_eq_true rfl) dX2_beginsWith_25 rfl ?_
        refine lv_aload_n hx hb dX2_beginsWith_28 rfl (lv_at hl 1 rfl) ?_
        refine lv_iload_n hx hb dX2_beginsWith_29 rfl (lv_at hl 2 rfl) ?_
        refine ro_V (As := [.int (nI i)]) (rest := [.int (nI (b i))]) (wc := [(h0, .inr (0, [.ref q0, .int (nI n)])), (q0, .inl (T 0, 440, .inl f))]) (r := .int (nI (b i))) ⟨hx, hb, hml, hown, hts⟩ (c_X2_atB l D T g h0 q0 f n i b hb9 (by omega)) (cwV 1 hts gX2_beginsWith_X2_at rfl rfl rfl (by decide +kernel) ⟨Nat.le_of_ble_eq_true rfl, Nat.le_of_ble_eq_true rfl⟩) (va_recv hK hP (ci := 0) (q0 := 0) rfl rfl) hP hK hG hS [0, 1] rfl ⟨Nat.zero_le _, Nat.zero_le _⟩ rfl hl.1 (Nat.le_of_ble_eq_true rfl) dX2_beginsWith_30 rfl ?_
        have hx1 := (hb9.2 i (by omega)).2
        refine ln_icmp_eq_t (tgt := 38) hx hb ⟨by omega, by omega⟩ (rfl) dX2_beginsWith_33 (by decide) ?_
        refine lv_iinc (v := (nI (i + 1))) (lv' := [(2, .int (nI (i + 1))), (0, .ref h0), (1, .ref h0)]) hx hb dX2_beginsWith_38 hl (k := 2) rfl (ni_inc1 _) (by decide) rfl (fun ls hl => ?_)
        refine lv_goto (tgt := 15) hx hb dX2_beginsWith_41 (by decide) ?_
        exact ih (i + 1) (by omega) (by omega) ls (lv_sub hl [1, 2, 0] rfl)
  exact K1 _ 0 (by omega) (Nat.lt_succ_self _) ls (lv_sub hl [1, 2, 0] rfl)
set_option maxHeartbeats 4000000 in
set_option maxRecDepth 100000 in
/-- whether the rows are alike -/
theorem c_X2_sameAs (l : Launch) (D : va_G) (T : Nat → ClassId) (g : Nat → Nat) (h0 : Nat) (q0 : Nat) (f : Nat → Int32) (n : Nat) (h1 : Nat) (q1 : Nat) (f1 : Nat → Int32) (n1 : Nat) (b : Nat → Nat) (b1 : Nat → Nat) (hb9 : RB f n b) (hb8 : RB f1 n1 b1) : RO l yX2_sameAs wsX2_sameAs ({ frames := 2, cells := 0, slots := 0, locals := 43 } : Room) D T g [.ref h0, .ref h1] [(h0, .inr (0, [.ref q0, .int (nI n)])), (q0, .inl (T 0, 440, .inl f)), (h1, .inr (0, [.ref q1, .int (nI n1)])), (q1, .inl (T 0, 440, .inl f1))] (.int (bI (saB n b n1 b1))) := by
  refine Met.ofW (cc := cX2_sameAs) (maxL := 2) (ret := (some .boolean)) (by decide) rfl ?_
  intro p e s m args below meth c s₁ B hml hv
  obtain ⟨rfl, hP, hK, hG⟩ := hv
  have hx := B.exec
  have hb := B.bytes
  have hr := B.returns
  have hts := atoms_spec (ws := wsX2_sameAs) B.pre
  have hown : s.vm.findClass RX2 = some m.cls := findClass_of_methodNamed B.named
  have hlocks := B.notSynchronized
  have hi_X2 : ∀ w ∈ wsX20, w ∈ wsX2_sameAs := by decide +kernel
  have hS : va_S (fun _ => False) s.heap s.heap [] := va_S.rf
  have hl := lv_entry ([.ref h0, .ref h1]) (n := 2) (Nat.le_of_ble_eq_true rfl)
  rw [lg_entry_eq]
  generalize (lg_sl ([.ref h0, .ref h1]) ++ List.replicate (2 - (lg_sl ([.ref h0, .ref h1])).length) Slot.unset).toArray = ls at hl ⊢
  have hl : lv_has ls 2 [(0, .ref h0), (1, .ref h1)] := hl
  have hn := hb9.1
  have hn1 := hb8.1
  refine lv_aload_n hx hb dX2_sameAs_0 rfl (lv_at hl 0 rfl) ?_
  refine va_get (D := D) (ci := 0) (v := .int (nI n)) (C := RX2) (T := TX2) (N := 2) hx hb hts hi_X2 hown hK hP 0 rfl rfl 1 (by decide) (hts _ (List.mem_of_getElem? (i := 1) rfl)) (fun _ h9 => h9) rfl dX2_sameAs_1 ?_
  refine lv_aload_n hx hb dX2_sameAs_4 rfl (lv_at hl 1 rfl) ?_
  refine va_get (D := D) (ci := 0) (v := .int (nI n1)) (C := RX2) (T := TX2) (N := 2) hx hb hts hi_X2 hown hK hP 2 rfl rfl 1 (by decide) (hts _ (List.mem_of_getElem? (i := 1) rfl)) (fun _ h9 => h9) rfl dX2_sameAs_5 ?_
  refine ln_icmp_ne (tgt := 23) hx hb ⟨by omega, by omega⟩ dX2_sameAs_8 (by decide) (fun c_8 => ?_) (fun c_8 => ?_)
  · refine lv_iconst (v := (nI 0)) hx hb dX2_sameAs_23 (by decide +kernel) ?_
    exact W.zret (v := (nI 0)) (ty := .boolean) hx hb hr (rfl) (fun t ht hW => ⟨(congrArg (fun z => Outcome.returned (some (Value.int z))) (show (nI 0) = (bI (saB n b n1 b1)) from bI_f (decide_eq_false (fun q9 => c_8 q9.1)))), ht⟩) (fun q h => nomatch h) dX2_sameAs_24
  · refine lv_aload_n hx hb dX2_sameAs_11 rfl (lv_at hl 0 rfl) ?_
    refine lv_aload_n hx hb dX2_sameAs_12 rfl (lv_at hl 1 rfl) ?_
    refine ro_V (As := [.ref h1]) (rest := []) (wc := [(h0, .inr (0, [.ref q0, .int (nI n)])), (q0, .inl (T 0, 440, .inl f)), (h1, .inr (0, [.ref q1, .int (nI n1)])), (q1, .inl (T 0, 440, .inl f1))]) (r := .int (bI (bwB n b n1 b1))) ⟨hx, hb, hml, hown, hts⟩ (c_X2_beginsWith l D T g h0 q0 f n h1 q1 f1 n1 b b1 (hb9) (hb8)) (cwV 1 hts gX2_sameAs_X2_beginsWith rfl rfl rfl (by decide +kernel) ⟨Nat.le_of_ble_eq_true rfl, Nat.le_of_ble_eq_true rfl⟩) (va_recv hK hP (ci := 0) (q0 := 0) rfl rfl) hP hK hG hS [0, 1, 2, 3] rfl ⟨Nat.zero_le _, Nat.zero_le _⟩ rfl hl.1 (Nat.le_of_ble_eq_true rfl) dX2_sameAs_13 rfl ?_
    refine lv_if_eq (tgt := 23) hx hb dX2_sameAs_16 (by decide) (fun c_16 => ?_) (fun c_16 => ?_)
    · refine lv_iconst (v := (nI 0)) hx hb dX2_sameAs_23 (by decide +kernel) ?_
      exact W.zret (v := (nI 0)) (ty := .boolean) hx hb hr (rfl) (fun t ht hW => ⟨(congrArg (fun z => Outcome.returned (some (Value.int z))) (show (nI 0) = (bI (saB n b n1 b1)) from bI_f (decide_eq_false (fun q9 => absurd (decide_eq_true (p := n1 ≤ n ∧ ∀ j, j < n1 → b j = b1 j) ⟨by omega, q9.2⟩) (by rw [show decide (n1 ≤ n ∧ ∀ j, j < n1 → b j = b1 j) = false from bI_z.mp c_16]; decide))))), ht⟩) (fun q h => nomatch h) dX2_sameAs_24
    · refine lv_iconst (v := (nI 1)) hx hb dX2_sameAs_19 (by decide +kernel) ?_
      refine lv_goto (tgt := 24) hx hb dX2_sameAs_20 (by decide) ?_
      exact W.zret (v := (nI 1)) (ty := .boolean) hx hb hr (rfl) (fun t ht hW => ⟨(congrArg (fun z => Outcome.returned (some (Value.int z))) (show (nI 1) = (bI (saB n b n1 b1)) from bI_t (decide_eq_true ⟨c_8, (of_decide_eq_true (bI_nz.mp c_16)).2⟩))), ht⟩) (fun q h => nomatch h) dX2_sameAs_24
set_option maxHeartbeats 4000000 in
set_option maxRecDepth 100000 in
theorem c_X2_sameAs_a (l : Launch) (D : va_G) (T : Nat → ClassId) (g : Nat → Nat) (h0 : Nat) (q0 : Nat) (f : Nat → Int32) (n : Nat) (b : Nat → Nat) (hb9 : RB f n b) : RO l yX2_sameAs wsX2_sameAs ({ frames := 2, cells := 0, slots := 0, locals := 43 } : Room) D T g [.ref h0, .ref h0] [(h0, .inr (0, [.ref q0, .int (nI n)])), (q0, .inl (T 0, 440, .inl f))] (.int (nI 1)) := by
  refine Met.ofW (cc := cX2_sameAs) (maxL := 2) (ret := (some .boolean)) (by decide) rfl ?_
  intro p e s m args below meth c s₁ B hml hv
  obtain ⟨rfl, hP, hK, hG⟩ := hv
  have hx := B.exec
  have hb := B.bytes
  have hr := B.returns
  have hts := atoms_spec (ws := wsX2_sameAs) B.pre
  have hown : s.vm.findClass RX2 = some m.cls := findClass_of_methodNamed B.named
  have hlocks := B.notSynchronized
  have hi_X2 : ∀ w ∈ wsX20, w ∈ wsX2_sameAs := by decide +kernel
  have hS : va_S (fun _ => False) s.heap s.heap [] := va_S.rf
  have hl := lv_entry ([.ref h0, .ref h0]) (n := 2) (Nat.le_of_ble_eq_true rfl)
  rw [lg_entry_eq]
  generalize (lg_sl ([.ref h0, .ref h0]) ++ List.replicate (2 - (lg_sl ([.ref h0, .ref h0])).length) Slot.unset).toArray = ls at hl ⊢
  have hl : lv_has ls 2 [(0, .ref h0), (1, .ref h0)] := hl
  have hn := hb9.1
  refine lv_aload_n hx hb dX2_sameAs_0 rfl (lv_at hl 0 rfl) ?_
  refine va_get (D := D) (ci := 0) (v := .int (nI n)) (C := RX2) (T := TX2) (N := 2) hx hb hts hi_X2 hown hK hP 0 rfl rfl 1 (by decide) (hts _ (List.mem_of_getElem? (i := 1) rfl)) (fun _ h9 => h9) rfl dX2_sameAs_1 ?_
  refine lv_aload_n hx hb dX2_sameAs_4 rfl (lv_at hl 1 rfl) ?_
  refine va_get (D := D) (ci := 0) (v := .int (nI n)) (C := RX2) (T := TX2) (N := 2) hx hb hts hi_X2 hown hK hP 0 rfl rfl 1 (by decide) (hts _ (List.mem_of_getElem? (i := 1) rfl)) (fun _ h9 => h9) rfl dX2_sameAs_5 ?_
  refine ln_icmp_ne_f (tgt := 23) hx hb ⟨by omega, by omega⟩ (rfl) dX2_sameAs_8 (by decide) ?_
  refine lv_aload_n hx hb dX2_sameAs_11 rfl (lv_at hl 0 rfl) ?_
  refine lv_aload_n hx hb dX2_sameAs_12 rfl (lv_at hl 1 rfl) ?_
  refine ro_V (As := [.ref h0]) (rest := []) (wc := [(h0, .inr (0, [.ref q0, .int (nI n)])), (q0, .inl (T 0, 440, .inl f))]) (r := .int (nI 1)) ⟨hx, hb, hml, hown, hts⟩ (c_X2_beginsWith_a l D T g h0 q0 f n b (hb9)) (cwV 1 hts gX2_sameAs_X2_beginsWith rfl rfl rfl (by decide +kernel) ⟨Nat.le_of_ble_eq_true rfl, Nat.le_of_ble_eq_true rfl⟩) (va_recv hK hP (ci := 0) (q0 := 0) rfl rfl) hP hK hG hS [0, 1] rfl ⟨Nat.zero_le _, Nat.zero_le _⟩ rfl hl.1 (Nat.le_of_ble_eq_true rfl) dX2_sameAs_13 rfl ?_
  refine ln_if_eq_f (tgt := 23) hx hb (by omega) (by decide) dX2_sameAs_16 (by decide) ?_
  refine lv_iconst (v := (nI 1)) hx hb dX2_sameAs_19 (by decide +kernel) ?_
  refine lv_goto (tgt := 24) hx hb dX2_sameAs_20 (by decide) ?_
  exact W.zret (v := (nI 1)) (ty := .boolean) hx hb hr (rfl) (fun t ht hW => ⟨(congrArg (fun z => Outcome.returned (some (Value.int z))) (show (nI 1) = (nI 1) from rfl)), ht⟩) (fun q h => nomatch h) dX2_sameAs_24
set_option maxHeartbeats 4000000 in
set_option maxRecDepth 100000 in
/-- the place of the first = -/
theorem c_X2_firstFilling (l : Launch) (D : va_G) (T : Nat → ClassId) (g : Nat → Nat) (h0 : Nat) (q0 : Nat) (f : Nat → Int32) (n : Nat) (b : Nat → Nat) (hb9 : RB f n b) : RO l yX2_firstFilling wsX2_firstFilling ({ frames := 1, cells := 0, slots := 0, locals := 21 } : Room) D T g [.ref h0] [(h0, .inr (0, [.ref q0, .int (nI n)])), (q0, .inl (T 0, 440, .inl f))] (.int (nI (fF n b))) := by
  refine Met.ofW (cc := cX2_firstFilling) (maxL := 2) (ret := (some .int)) (by decide) rfl ?_
  intro p e s m args below meth c s₁ B hml hv
  obtain ⟨rfl, hP, hK, hG⟩ := hv
  have hx := B.exec
  have hb := B.bytes
  have hr := B.returns
  have hts := atoms_spec (ws := wsX2_firstFilling) B.pre
  have hown : s.vm.findClass RX2 = some m.cls := findClass_of_methodNamed B.named
  have hlocks := B.notSynchronized
  have hi_X2 : ∀ w ∈ wsX20, w ∈ wsX2_firstFilling := by decide +kernel
  have hS : va_S (fun _ => False) s.heap s.heap [] := va_S.rf
  have hl := lv_entry ([.ref h0]) (n := 2) (Nat.le_of_ble_eq_true rfl)
  rw [lg_entry_eq]
  generalize (lg_sl ([.ref h0]) ++ List.replicate (2 - (lg_sl ([.ref h0])).length) Slot.unset).toArray = ls at hl ⊢
  have hl : lv_has ls 2 [(0, .ref h0)] := hl
  have hn := hb9.1
  refine lv_iconst (v := (nI 0)) hx hb dX2_firstFilling_0 (by decide +kernel) ?_
  refine lv_istore_n (lv' := [(1, .int (nI 0)), (0, .ref h0)]) hx hb dX2_firstFilling_1 rfl hl (by decide) rfl (fun ls hl => ?_)
  have K1 : ∀ (N9 : Nat) (i : Nat), (i ≤ n) → (∀ j, j < i → eqB b j = false) → n - i < N9 → ∀ ls : Array Slot, lv_has ls 2 [(0, .ref h0), (1, .int (nI i))] → W p l e (headSpec wsX2_firstFilling ({ frames := 1, cells := 0, slots := 0, locals := 21 } : Room)).room s m ([.ref h0] : List Value).toArray below meth c s.heap [] 0 0 (MQ below (k2_QcV (.int (nI (fF n b)))) ([.ref h0] : List Value).toArray s 0 0 (fun _ => False)) (F0 m 2 ls []) := by
    intro N9
    induction N9 with
    | zero => intro i hi hq h9; exact absurd h9 (Nat.not_lt_zero _)
    | succ N9 ih =>
      intro i hi hq h9 ls hl
      refine lv_iload_n hx hb dX2_firstFilling_2 rfl (lv_at hl 1 rfl) ?_
      refine lv_aload_n hx hb dX2_firstFilling_3 rfl (lv_at hl 0 rfl) ?_
      refine va_get (D := D) (ci := 0) (v := .int (nI n)) (C := RX2) (T := TX2) (N := 2) hx hb hts hi_X2 hown hK hP 0 rfl rfl 1 (by decide) (hts _ (List.mem_of_getElem? (i := 1) rfl)) (fun _ h9 => h9) rfl dX2_firstFilling_4 ?_
      refine ln_icmp_ge (tgt := 28) hx hb ⟨by omega, by omega⟩ dX2_firstFilling_7 (by decide) (fun c_7 => ?_) (fun c_7 => ?_)
      · refine lv_aload_n hx hb dX2_firstFilling_28 rfl (lv_at hl 0 rfl) ?_
        refine va_get (D := D) (ci := 0) (v := .int (nI n)) (C := RX2) (T := TX2) (N := 2) hx hb hts hi_X2 hown hK hP 0 rfl rfl 1 (by decide) (hts _ (List.mem_of_getElem? (i := 1) rfl)) (fun _ h9 => h9) rfl dX2_firstFilling_29 ?_
        exact W.iret (v := (nI n)) hx hb hr (fun t ht hW => ⟨(congrArg (fun z => Outcome.returned (some (Value.int z))) (show (nI n) = (nI (fF n b)) from congrArg nI (fsN_eq (Nat.le_refl _) (fun k hk => hq k (by omega)) (Or.inl rfl)).symm)), ht⟩) (fun q h => nomatch h) dX2_firstFilling_32
      · refine lv_aload_n hx hb dX2_firstFilling_10 rfl (lv_at hl 0 rfl) ?_
        refine lv_iload_n hx hb dX2_firstFilling_11 rfl (lv_at hl 1 rfl) ?_
        refine ro_V (As := [.int (nI i)]) (rest := []) (wc := [(h0, .inr (0, [.ref q0, .int (nI n)])), (q0, .inl (T 0, 440, .inl f))]) (r := .int (nI (b i))) ⟨hx, hb, hml, hown, hts⟩ (c_X2_atB l D T g h0 q0 f n i b hb9 (by omega)) (cwV 1 hts gX2_firstFilling_X2_at rfl rfl rfl (by decide +kernel) ⟨Nat.le_of_ble_eq_true rfl, Nat.le_of_ble_eq_true rfl⟩) (va_recv hK hP (ci := 0) (q0 := 0) rfl rfl) hP hK hG hS [0, 1] rfl ⟨Nat.zero_le _, Nat.zero_le _⟩ rfl hl.1 (Nat.le_of_ble_eq_true rfl) dX2_firstFilling_12 rfl ?_
        have hx1 := (hb9.2 i (by omega)).2
        refine lv_bipush (v := (nI 61)) hx hb dX2_firstFilling_15 (by decide +kernel) ?_
        refine ln_icmp_ne (tgt := 22) hx hb ⟨by omega, by omega⟩ dX2_firstFilling_17 (by decide) (fun c_17 => ?_) (fun c_17 => ?_)
        · refine lv_iinc (v := (nI (i + 1))) (lv' := [(1, .int (nI (i + 1))), (0, .ref h0)]) hx hb dX2_firstFilling_22 hl (k := 1) rfl (ni_inc1 _) (by decide) rfl (fun ls hl => ?_)
          refine lv_goto (tgt := 2) hx hb dX2_firstFilling_25 (by decide) ?_
          exact ih (i + 1) (by omega) (fun j hj => by
                by_cases e9 : j = i
                · subst e9; exact decide_eq_false c_17
                · exact hq j (by omega)) (by omega) ls (lv_sub hl [1, 0] rfl)
        · refine lv_iload_n hx hb dX2_firstFilling_20 rfl (lv_at hl 1 rfl) ?_
          exact W.iret (v := (nI i)) hx hb hr (fun t ht hW => ⟨(congrArg (fun z => Outcome.returned (some (Value.int z))) (show (nI i) = (nI (fF n b)) from congrArg nI (fsN_eq hi hq (Or.inr (decide_eq_true c_17))).symm)), ht⟩) (fun q h => nomatch h) dX2_firstFilling_21
  exact K1 _ 0 (by omega) (fun j hj => absurd hj (Nat.not_lt_zero _)) (Nat.lt_succ_self _) ls (lv_sub hl [1, 0] rfl)
set_option maxHeartbeats 4000000 in
set_option maxRecDepth 100000 in
/-- how many = there are from a place on -/
theorem c_X2_countFilling (l : Launch) (D : va_G) (T : Nat → ClassId) (g : Nat → Nat) (h0 : Nat) (q0 : Nat) (f : Nat → Int32) (n : Nat) (a9 : Nat) (b : Nat → Nat) (hb9 : RB f n b) (ha : a9 ≤ n) : RO l yX2_countFilling wsX2_countFilling ({ frames := 1, cells := 0, slots := 0, locals := 21 } : Room) D T g [.ref h0, .int (nI a9)] [(h0, .inr (0, [.ref q0, .int (nI n)])), (q0, .inl (T 0, 440, .inl f))] (.int (nI (ctN (eqB b) n - ctN (eqB b) a9))) := by
  refine Met.ofW (cc := cX2_countFilling) (maxL := 4) (ret := (some .int)) (by decide) rfl ?_
  intro p e s m args below meth c s₁ B hml hv
  obtain ⟨rfl, hP, hK, hG⟩ := hv
  have hx := B.exec
  have hb := B.bytes
  have hr := B.returns
  have hts := atoms_spec (ws := wsX2_countFilling) B.pre
  have hown : s.vm.findClass RX2 = some m.cls := findClass_of_methodNamed B.named
  have hlocks := B.notSynchronized
  have hi_X2 : ∀ w ∈ wsX20, w ∈ wsX2_countFilling := by decide +kernel
  have hS : va_S (fun _ => False) s.heap s.heap [] := va_S.rf
  have hl := lv_entry ([.ref h0, .int (nI a9)]) (n := 4) (Nat.le_of_ble_eq_true rfl)
  rw [lg_entry_eq]
  generalize (lg_sl ([.ref h0, .int (nI a9)]) ++ List.replicate (4 - (lg_sl ([.ref h0, .int (nI a9)])).length) Slot.unset).toArray = ls at hl ⊢
  have hl : lv_has ls 4 [(0, .ref h0), (1, .int (nI a9))] := hl
  have hn := hb9.1
  refine lv_iconst (v := (nI 0)) hx hb dX2_countFilling_0 (by decide +kernel) ?_
  refine lv_istore_n (lv' := [(2, .int (nI 0)), (0, .ref h0), (1, .int (nI a9))]) hx hb dX2_countFilling_1 rfl hl (by decide) rfl (fun ls hl => ?_)
  refine lv_iload_n hx hb dX2_countFilling_2 rfl (lv_at hl 2 rfl) ?_
  refine lv_istore_n (lv' := [(3, .int (nI a9)), (2, .int (nI 0)), (0, .ref h0), (1, .int (nI a9))]) hx hb dX2_countFilling_3 rfl hl (by decide) rfl (fun ls hl => ?_)
  have K1 : ∀ (N9 : Nat) (i : Nat) (c9 : Nat), (a9 ≤ i ∧ i ≤ n) → (c9 + ctN (eqB b) a9 = ctN (eqB b) i) → n - i < N9 → ∀ ls : Array Slot, lv_has ls 4 [(0, .ref h0), (1, .int (nI a9)), (2, .int (nI c9)), (3, .int (nI i))] → W p l e (headSpec wsX2_countFilling ({ frames := 1, cells := 0, slots := 0, locals := 21 } : Room)).room s m ([.ref h0, .int (nI a9)] : List Value).toArray below meth c s.heap [] 0 0 (MQ below (k2_QcV (.int (nI (ctN (eqB b) n - ctN (eqB b) a9)))) ([.ref h0, .int (nI a9)] : List Value).toArray s 0 0 (fun _ => False)) (F0 m 4 ls []) := by
    intro N9
    induction N9 with
    | zero => intro i c9 hi hc h9; exact absurd h9 (Nat.not_lt_zero _)
    | succ N9 ih =>
      intro i c9 hi hc h9 ls hl
      refine lv_iload_n hx hb dX2_countFilling_4 rfl (lv_at hl 3 rfl) ?_
      refine lv_aload_n hx hb dX2_countFilling_5 rfl (lv_at hl 0 rfl) ?_
      refine va_get (D := D) (ci := 0) (v := .int (nI n)) (C := RX2) (T := TX2) (N := 2) hx hb hts hi_X2 hown hK hP 0 rfl rfl 1 (by decide) (hts _ (List.mem_of_getElem? (i := 1) rfl)) (fun _ h9 => h9) rfl dX2_countFilling_6 ?_
      refine ln_icmp_ge (tgt := 31) hx hb ⟨by omega, by omega⟩ dX2_countFilling_9 (by decide) (fun c_9 => ?_) (fun c_9 => ?_)
      · refine lv_iload_n hx hb dX2_countFilling_31 rfl (lv_at hl 2 rfl) ?_
        exact W.iret (v := (nI c9)) hx hb hr (fun t ht hW => ⟨(congrArg (fun z => Outcome.returned (some (Value.int z))) (show (nI c9) = (nI (ctN (eqB b) n - ctN (eqB b) a9)) from congrArg nI (by have e9 : i = n := (by omega); subst e9; omega))), ht⟩) (fun q h => nomatch h) dX2_countFilling_32
      · refine lv_aload_n hx hb dX2_countFilling_12 rfl (lv_at hl 0 rfl) ?_
        refine lv_iload_n hx hb dX2_countFilling_13 rfl (lv_at hl 3 rfl) ?_
        refine ro_V (As := [.int (nI i)]) (rest := []) (wc := [(h0, .inr (0, [.ref q0, .int (nI n)])), (q0, .inl (T 0, 440, .inl f))]) (r := .int (nI (b i))) ⟨hx, hb, hml, hown, hts⟩ (c_X2_atB l D T g h0 q0 f n i b hb9 (by omega)) (cwV 1 hts gX2_countFilling_X2_at rfl rfl rfl (by decide +kernel) ⟨Nat.le_of_ble_eq_true rfl, Nat.le_of_ble_eq_true rfl⟩) (va_recv hK hP (ci := 0) (q0 := 0) rfl rfl) hP hK hG hS [0, 1] rfl ⟨Nat.zero_le _, Nat.zero_le _⟩ rfl hl.1 (Nat.le_of_ble_eq_true rfl) dX2_countFilling_14 rfl ?_
        have hx1 := (hb9.2 i (by omega)).2
        refine lv_bipush (v := (nI 61)) hx hb dX2_countFilling_17 (by decide +kernel) ?_
        refine ln_icmp_ne (tgt := 25) hx hb ⟨by omega, by omega⟩ dX2_countFilling_19 (by decide) (fun c_19 => ?_) (fun c_19 => ?_)
        · refine lv_iinc (v := (nI (i + 1))) (lv' := [(3, .int (nI (i + 1))), (0, .ref h0), (1, .int (nI a9)), (2, .int (nI c9))]) hx hb dX2_countFilling_25 hl (k := 3) rfl (ni_inc1 _) (by decide) rfl (fun ls hl => ?_)
          refine lv_goto (tgt := 4) hx hb dX2_countFilling_28 (by decide) ?_
          exact ih (i + 1) c9 (by omega) (by first | (rw [ctN_t (show eqB b i = true from decide_eq_true c_19)]; omega) | (rw [ctN_f (show eqB b i = false from decide_eq_false c_19)]; omega)) (by omega) ls (lv_sub hl [1, 2, 3, 0] rfl)
        · refine lv_iinc (v := (nI (c9 + 1))) (lv' := [(2, .int (nI (c9 + 1))), (0, .ref h0), (1, .int (nI a9)), (3, .int (nI i))]) hx hb dX2_countFilling_22 hl (k := 2) rfl (ni_inc1 _) (by decide) rfl (fun ls hl => ?_)
          refine lv_iinc (v := (nI (i + 1))) (lv' := [(3, .int (nI (i + 1))), (2, .int (nI (c9 + 1))), (0, .ref h0), (1, .int (nI a9))]) hx hb dX2_countFilling_25 hl (k := 3) rfl (ni_inc1 _) (by decide) rfl (fun ls hl => ?_)
          refine lv_goto (tgt := 4) hx hb dX2_countFilling_28 (by decide) ?_
          exact ih (i + 1) (c9 + 1) (by omega) (by first | (rw [ctN_t (show eqB b i = true from decide_eq_true c_19)]; omega) | (rw [ctN_f (show eqB b i = false from decide_eq_false c_19)]; omega)) (by omega) ls (lv_sub hl [2, 3, 1, 0] rfl)
  exact K1 _ a9 0 (by omega) (by omega) (Nat.lt_succ_self _) ls (lv_sub hl [2, 3, 1, 0] rfl)
set_option maxHeartbeats 4000000 in
set_option maxRecDepth 100000 in
/-- how many letters there are ahead of a place -/
theorem c_X2_countLetters (l : Launch) (D : va_G) (T : Nat → ClassId) (g : Nat → Nat) (h0 : Nat) (q0 : Nat) (f : Nat → Int32) (n : Nat) (k : Nat) (e8 : Nat) (b : Nat → Nat) (hb9 : RB f n b) (hk : k < 3) (he : e8 ≤ n) : RO l yX2_countLetters wsX2_countLetters ({ frames := 2, cells := 0, slots := 0, locals := 42 } : Room) D T g [.ref h0, .ref (g k), .int (nI e8)] [(h0, .inr (0, [.ref q0, .int (nI n)])), (q0, .inl (T 0, 440, .inl f))] (.int (nI (ctN (ltB k b) e8))) := by
  refine Met.ofW (cc := cX2_countLetters) (maxL := 5) (ret := (some .int)) (by decide) rfl ?_
  intro p e s m args below meth c s₁ B hml hv
  obtain ⟨rfl, hP, hK, hG⟩ := hv
  have hx := B.exec
  have hb := B.bytes
  have hr := B.returns
  have hts := atoms_spec (ws := wsX2_countLetters) B.pre
  have hown : s.vm.findClass RX2 = some m.cls := findClass_of_methodNamed B.named
  have hlocks := B.notSynchronized
  have hS : va_S (fun _ => False) s.heap s.heap [] := va_S.rf
  have hl := lv_entry ([.ref h0, .ref (g k), .int (nI e8)]) (n := 5) (Nat.le_of_ble_eq_true rfl)
  rw [lg_entry_eq]
  generalize (lg_sl ([.ref h0, .ref (g k), .int (nI e8)]) ++ List.replicate (5 - (lg_sl ([.ref h0, .ref (g k), .int (nI e8)])).length) Slot.unset).toArray = ls at hl ⊢
  have hl : lv_has ls 5 [(0, .ref h0), (1, .ref (g k)), (2, .int (nI e8))] := hl
  have hn := hb9.1
  refine lv_iconst (v := (nI 0)) hx hb dX2_countLetters_0 (by decide +kernel) ?_
  refine lv_istore_n (lv' := [(3, .int (nI 0)), (0, .ref h0), (1, .ref (g k)), (2, .int (nI e8))]) hx hb dX2_countLetters_1 rfl hl (by decide) rfl (fun ls hl => ?_)
  refine lv_iconst (v := (nI 0)) hx hb dX2_countLetters_2 (by decide +kernel) ?_
  refine lv_istore (lv' := [(4, .int (nI 0)), (3, .int (nI 0)), (0, .ref h0), (1, .ref (g k)), (2, .int (nI e8))]) hx hb dX2_countLetters_3 hl (by decide) rfl (fun ls hl => ?_)
  have K1 : ∀ (N9 : Nat) (i : Nat) (c9 : Nat), (i ≤ e8) → (c9 = ctN (ltB k b) i) → e8 - i < N9 → ∀ ls : Array Slot, lv_has ls 5 [(0, .ref h0), (1, .ref (g k)), (2, .int (nI e8)), (3, .int (nI c9)), (4, .int (nI i))] → W p l e (headSpec wsX2_countLetters ({ frames := 2, cells := 0, slots := 0, locals := 42 } : Room)).room s m ([.ref h0, .ref (g k), .int (nI e8)] : List Value).toArray below meth c s.heap [] 0 0 (MQ below (k2_QcV (.int (nI (ctN (ltB k b) e8)))) ([.ref h0, .ref (g k), .int (nI e8)] : List Value).toArray s 0 0 (fun _ => False)) (F0 m 5 ls []) := by
    intro N9
    induction N9 with
    | zero => intro i c9 hi hc h9; exact absurd h9 (Nat.not_lt_zero _)
    | succ N9 ih =>
      intro i c9 hi hc h9 ls hl
      refine lv_iload hx hb dX2_countLetters_5 (lv_at hl 4 rfl) ?_
      refine lv_iload_n hx hb dX2_countLetters_7 rfl (lv_at hl 2 rfl) ?_
      refine ln_icmp_ge (tgt := 33) hx hb ⟨by omega, by omega⟩ dX2_countLetters_8 (by decide) (fun c_8 => ?_) (fun c_8 => ?_)
      · refine lv_iload_n hx hb dX2_countLetters_33 rfl (lv_at hl 3 rfl) ?_
        exact W.iret (v := (nI c9)) hx hb hr (fun t ht hW => ⟨(congrArg (fun z => Outcome.returned (some (Value.int z))) (show (nI c9) = (nI (ctN (ltB k b) e8)) from congrArg nI (by have e9 : i = e8 := (by omega); subst e9; exact hc))), ht⟩) (fun q h => nomatch h) dX2_countLetters_34
      · refine lv_aload_n hx hb dX2_countLetters_11 rfl (lv_at hl 1 rfl) ?_
        refine lv_aload_n hx hb dX2_countLetters_12 rfl (lv_at hl 0 rfl) ?_
        refine lv_iload hx hb dX2_countLetters_13 (lv_at hl 4 rfl) ?_
        refine ro_V (As := [.int (nI i)]) (rest := [.ref (g k)]) (wc := [(h0, .inr (0, [.ref q0, .int (nI n)])), (q0, .inl (T 0, 440, .inl f))]) (r := .int (nI (b i))) ⟨hx, hb, hml, hown, hts⟩ (c_X2_atB l D T g h0 q0 f n i b hb9 (by omega)) (cwV 1 hts gX2_countLetters_X2_at rfl rfl rfl (by decide +kernel) ⟨Nat.le_of_ble_eq_true rfl, Nat.le_of_ble_eq_true rfl⟩) (va_recv hK hP (ci := 0) (q0 := 0) rfl rfl) hP hK hG hS [0, 1] rfl ⟨Nat.zero_le _, Nat.zero_le _⟩ rfl hl.1 (Nat.le_of_ble_eq_true rfl) dX2_countLetters_15 rfl ?_
        refine ro_V (As := [.int (nI (b i))]) (rest := []) (wc := []) (r := .int (bI (isL k (b i)))) ⟨hx, hb, hml, hown, hts⟩ (c_X0_isLetter l D T g k (b i) hk ((hb9.2 i (by omega)).2)) (cwV 1 hts gX2_countLetters_X0_isLetter rfl rfl rfl (by decide +kernel) ⟨Nat.le_of_ble_eq_true rfl, Nat.le_of_ble_eq_true rfl⟩) (va_recvE hG.1 (show _ < KN.length from hk) hS) hP hK hG hS [] rfl ⟨Nat.zero_le _, Nat.zero_le _⟩ rfl hl.1 (Nat.le_of_ble_eq_true rfl) dX2_countLetters_18 rfl ?_
        refine lv_if_eq (tgt := 27) hx hb dX2_countLetters_21 (by decide) (fun c_21 => ?_) (fun c_21 => ?_)
        · refine lv_iinc (v := (nI (i + 1))) (lv' := [(4, .int (nI (i + 1))), (0, .ref h0), (1, .ref (g k)), (2, .int (nI e8)), (3, .int (nI c9))]) hx hb dX2_countLetters_27 hl (k := 4) rfl (ni_inc1 _) (by decide) rfl (fun ls hl => ?_)
          refine lv_goto (tgt := 5) hx hb dX2_countLetters_30 (by decide) ?_
          exact ih (i + 1) c9 (by omega) (by first | (rw [ctN_t (show ltB k b i = true from bI_nz.mp c_21)]; omega) | (rw [ctN_f (show ltB k b i = false from bI_z.mp c_21)]; omega)) (by omega) ls (lv_sub hl [1, 2, 3, 4, 0] rfl)
        · refine lv_iinc (v := (nI (c9 + 1))) (lv' := [(3, .int (nI (c9 + 1))), (0, .ref h0), (1, .ref (g k)), (2, .int (nI e8)), (4, .int (nI i))]) hx hb dX2_countLetters_24 hl (k := 3) rfl (ni_inc1 _) (by decide) rfl (fun ls hl => ?_)
          refine lv_iinc (v := (nI (i + 1))) (lv' := [(4, .int (nI (i + 1))), (3, .int (nI (c9 + 1))), (0, .ref h0), (1, .ref (g k)), (2, .int (nI e8))]) hx hb dX2_countLetters_27 hl (k := 4) rfl (ni_inc1 _) (by decide) rfl (fun ls hl => ?_)
          refine lv_goto (tgt := 5) hx hb dX2_countLetters_30 (by decide) ?_
          exact ih (i + 1) (c9 + 1) (by omega) (by first | (rw [ctN_t (show ltB k b i = true from bI_nz.mp c_21)]; omega) | (rw [ctN_f (show ltB k b i = false from bI_z.mp c_21)]; omega)) (by omega) ls (lv_sub hl [2, 3, 4, 1, 0] rfl)
  exact K1 _ 0 0 (by omega) (rfl) (Nat.lt_succ_self _) ls (lv_sub hl [2, 3, 4, 1, 0] rfl)
set_option maxHeartbeats 4000000 in
set_option maxRecDepth 100000 in
/-- the sum over a row -/
theorem c_X2_addTo (l : Launch) (D : va_G) (T : Nat → ClassId) (g : Nat → Nat) (h0 : Nat) (q0 : Nat) (f : Nat → Int32) (n : Nat) (s9 : Int64) (b : Nat → Nat) (hb9 : RB f n b) : RO l yX2_addTo wsX2_addTo ({ frames := 1, cells := 0, slots := 0, locals := 21 } : Room) D T g [.ref h0, .long s9] [(h0, .inr (0, [.ref q0, .int (nI n)])), (q0, .inl (T 0, 440, .inl f))] (.long (adF b n (31 * s9 + lN n))) := by
  refine Met.ofW (cc := cX2_addTo) (maxL := 6) (ret := (some .long)) (by decide) rfl ?_
  intro p e s m args below meth c s₁ B hml hv
  obtain ⟨rfl, hP, hK, hG⟩ := hv
  have hx := B.exec
  have hb := B.bytes
  have hr := B.returns
  have hts := atoms_spec (ws := wsX2_addTo) B.pre
  have hown : s.vm.findClass RX2 = some m.cls := findClass_of_methodNamed B.named
  have hlocks := B.notSynchronized
  have hi_X2 : ∀ w ∈ wsX20, w ∈ wsX2_addTo := by decide +kernel
  have hS : va_S (fun _ => False) s.heap s.heap [] := va_S.rf
  have hl := lv_entry ([.ref h0, .long s9]) (n := 6) (Nat.le_of_ble_eq_true rfl)
  rw [lg_entry_eq]
  generalize (lg_sl ([.ref h0, .long s9]) ++ List.replicate (6 - (lg_sl ([.ref h0, .long s9])).length) Slot.unset).toArray = ls at hl ⊢
  have hl : lv_has ls 6 [(0, .ref h0), (1, .long s9)] := hl
  have hn := hb9.1
  refine lv_ldc2 hx hb hown (hts _ (List.mem_of_getElem? (i := 1) rfl)) dX2_addTo_0 ?_
  refine lv_lload_n hx hb dX2_addTo_3 rfl (lv_at hl 1 rfl) ?_
  refine lv_lmul hx hb dX2_addTo_4 ?_
  refine lv_aload_n hx hb dX2_addTo_5 rfl (lv_at hl 0 rfl) ?_
  refine va_get (D := D) (ci := 0) (v := .int (nI n)) (C := RX2) (T := TX2) (N := 2) hx hb hts hi_X2 hown hK hP 0 rfl rfl 1 (by decide) (hts _ (List.mem_of_getElem? (i := 2) rfl)) (fun _ h9 => h9) rfl dX2_addTo_6 ?_
  refine lv_i2l hx hb dX2_addTo_9 (v := lN n) (nI_l (by omega)) ?_
  refine lv_ladd hx hb dX2_addTo_10 ?_
  refine lv_lstore_n (lv' := [(3, .long ((31 * s9) + (lN n))), (0, .ref h0), (1, .long s9)]) hx hb dX2_addTo_11 rfl hl (by decide) rfl (fun ls hl => ?_)
  refine lv_iconst (v := (nI 0)) hx hb dX2_addTo_12 (by decide +kernel) ?_
  refine lv_istore (lv' := [(5, .int (nI 0)), (3, .long ((31 * s9) + (lN n))), (0, .ref h0), (1, .long s9)]) hx hb dX2_addTo_13 hl (by decide) rfl (fun ls hl => ?_)
  have K1 : ∀ (N9 : Nat) (i : Nat) (r9 : Int64), (i ≤ n) → (r9 = adF b i (31 * s9 + lN n)) → n - i < N9 → ∀ ls : Array Slot, lv_has ls 6 [(0, .ref h0), (3, .long r9), (5, .int (nI i))] → W p l e (headSpec wsX2_addTo ({ frames := 1, cells := 0, slots := 0, locals := 21 } : Room)).room s m ([.ref h0, .long s9] : List Value).toArray below meth c s.heap [] 0 0 (MQ below (k2_QcV (.long (adF b n (31 * s9 + lN n)))) ([.ref h0, .long s9] : List Value).toArray s 0 0 (fun _ => False)) (F0 m 15 ls []) := by
    intro N9
    induction N9 with
    | zero => intro i r9 hi hc h9; exact absurd h9 (Nat.not_lt_zero _)
    | succ N9 ih =>
      intro i r9 hi hc h9 ls hl
      refine lv_iload hx hb dX2_addTo_15 (lv_at hl 2 rfl) ?_
      refine lv_aload_n hx hb dX2_addTo_17 rfl (lv_at hl 0 rfl) ?_
      refine va_get (D := D) (ci := 0) (v := .int (nI n)) (C := RX2) (T := TX2) (N := 2) hx hb hts hi_X2 hown hK hP 0 rfl rfl 1 (by decide) (hts _ (List.mem_of_getElem? (i := 2) rfl)) (fun _ h9 => h9) rfl dX2_addTo_18 ?_
      refine ln_icmp_ge (tgt := 44) hx hb ⟨by omega, by omega⟩ dX2_addTo_21 (by decide) (fun c_21 => ?_) (fun c_21 => ?_)
      · refine lv_lload_n hx hb dX2_addTo_44 rfl (lv_at hl 1 rfl) ?_
        exact W.lret (v := r9) hx hb hr (fun t ht hW => ⟨(congrArg (fun z => Outcome.returned (some (Value.long z))) (show r9 = (adF b n (31 * s9 + lN n)) from (by have e9 : i = n := (by omega); subst e9; exact hc))), ht⟩) (fun q h => nomatch h) dX2_addTo_45
      · refine lv_ldc2 hx hb hown (hts _ (List.mem_of_getElem? (i := 1) rfl)) dX2_addTo_24 ?_
        refine lv_lload_n hx hb dX2_addTo_27 rfl (lv_at hl 1 rfl) ?_
        refine lv_lmul hx hb dX2_addTo_28 ?_
        refine lv_aload_n hx hb dX2_addTo_29 rfl (lv_at hl 0 rfl) ?_
        refine lv_iload hx hb dX2_addTo_30 (lv_at hl 2 rfl) ?_
        refine ro_V (As := [.int (nI i)]) (rest := [.long (31 * r9)]) (wc := [(h0, .inr (0, [.ref q0, .int (nI n)])), (q0, .inl (T 0, 440, .inl f))]) (r := .int (nI (b i))) ⟨hx, hb, hml, hown, hts⟩ (c_X2_atB l D T g h0 q0 f n i b hb9 (by omega)) (cwV 1 hts gX2_addTo_X2_at rfl rfl rfl (by decide +kernel) ⟨Nat.le_of_ble_eq_true rfl, Nat.le_of_ble_eq_true rfl⟩) (va_recv hK hP (ci := 0) (q0 := 0) rfl rfl) hP hK hG hS [0, 1] rfl ⟨Nat.zero_le _, Nat.zero_le _⟩ rfl hl.1 (Nat.le_of_ble_eq_true rfl) dX2_addTo_32 rfl ?_
        have hx1 := (hb9.2 i (by omega)).2
        refine lv_i2l hx hb dX2_addTo_35 (v := lN (b i)) (nI_l (by omega)) ?_
        refine lv_ladd hx hb dX2_addTo_36 ?_
        refine lv_lstore_n (lv' := [(3, .long ((31 * r9) + (lN (b i)))), (0, .ref h0), (5, .int (nI i))]) hx hb dX2_addTo_37 rfl hl (by decide) rfl (fun ls hl => ?_)
        refine lv_iinc (v := (nI (i + 1))) (lv' := [(5, .int (nI (i + 1))), (3, .long ((31 * r9) + (lN (b i)))), (0, .ref h0)]) hx hb dX2_addTo_38 hl (k := 2) rfl (ni_inc1 _) (by decide) rfl (fun ls hl => ?_)
        refine lv_goto (tgt := 15) hx hb dX2_addTo_41 (by decide) ?_
        exact ih (i + 1) ((31 * r9) + (lN (b i))) (by omega) (by rw [hc]; rfl) (by omega) ls (lv_sub hl [2, 1, 0] rfl)
  exact K1 _ 0 ((31 * s9) + (lN n)) (by omega) (rfl) (Nat.lt_succ_self _) ls (lv_sub hl [2, 1, 0] rfl)
