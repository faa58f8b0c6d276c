theorem c_X2_atB (l : Launch) (D : va_G) (T : Nat → ClassId) (g : Nat → Nat) (h0 q0 : Nat) (f : Nat → Int32) (n i : Nat) (b : Nat → Nat) (hb9 : RB f n b) (hi : i < n) : RO l yX2_at wsX2_at ({ frames := 0, cells := 0, slots := 0, locals := 0 } : Room) D T g [.ref h0, .int (nI i)] [(h0, .inr (0, [.ref q0, .int (nI n)])), (q0, .inl (T 0, 440, .inl f))] (.int (nI (b i))) := by
  have h := c_X2_at l D T g h0 q0 f n i b hb9 (by have := hb9.1; omega)
  rw [atN_in hi] at h
  exact h
set_option maxHeartbeats 4000000 in
set_option maxRecDepth 100000 in
/-- puts a byte between others -/
theorem c_X2_squeezeIn (l : Launch) (D : va_G) (T : Nat → ClassId) (g : Nat → Nat) (sz : Nat) (h0 : Nat) (q0 : Nat) (f : Nat → Int32) (n : Nat) (p9 : Nat) (v : Nat) (b : Nat → Nat) (hb9 : RB f n b) (hp : p9 ≤ n ∧ n < 440) (hv9 : v < 256) : MU l yX2_squeezeIn wsX2_squeezeIn ({ frames := 1, cells := 0, slots := 0, locals := 22 } : Room) D T g [.ref h0, .int (nI p9), .int (nI v)] [(h0, .inr (0, [.ref q0, .int (nI n)])), (q0, .inl (T 0, 440, .inl f))] sz (fun u : Nat → Int32 => none) (fun u : Nat → Int32 => RB u (n + 1) (insN b p9 v)) (fun u : Nat → Int32 => [(h0, .inr (0, [.ref q0, .int (nI (n + 1))])), (q0, .inl (T 0, 440, .inl u))]) 0 0 := by
  refine Met.ofW (cc := cX2_squeezeIn) (maxL := 4) (ret := none) (by decide) rfl ?_
  intro p e s m args below meth c s₁ B hml hv
  obtain ⟨rfl, hsz, hP, hK, hD0, hG⟩ := hv
  have hx := B.exec
  have hb := B.bytes
  have hr := B.returns
  have hts := atoms_spec (ws := wsX2_squeezeIn) B.pre
  have hown : s.vm.findClass RX2 = some m.cls := findClass_of_methodNamed B.named
  have hlocks := B.notSynchronized
  have hi_X2 : ∀ w ∈ wsX20, w ∈ wsX2_squeezeIn := by decide +kernel
  subst hsz
  have hD := hD0.self (sz := s.heap.size)
  generalize hAe : va_A [(h0, .inr (0, [.ref q0, .int (nI n)])), (q0, .inl (T 0, 440, .inl f))] s.heap.size = A at hD hG ⊢
  have hA : ∀ q : Nat, s.heap.size ≤ q → A q := fun q h => by rw [← hAe]; exact Or.inr h
  have hS : va_S A s.heap s.heap [] := va_S.rf
  have hP : va_P D cls [(h0, .inr (0, [.ref q0, .int (nI n)])), (q0, .inl (T 0, 440, .inl f))] s.heap := hP
  have hl := lv_entry ([.ref h0, .int (nI p9), .int (nI v)]) (n := 4) (Nat.le_of_ble_eq_true rfl)
  rw [lg_entry_eq]
  generalize (lg_sl ([.ref h0, .int (nI p9), .int (nI v)]) ++ List.replicate (4 - (lg_sl ([.ref h0, .int (nI p9), .int (nI v)])).length) Slot.unset).toArray = ls at hl ⊢
  have hl : lv_has ls 4 [(0, .ref h0), (1, .int (nI p9)), (2, .int (nI v))] := hl
  refine lv_aload_n hx hb dX2_squeezeIn_0 rfl (lv_at hl 0 rfl) ?_
  refine lv_iload_n hx hb dX2_squeezeIn_1 rfl (lv_at hl 2 rfl) ?_
  refine mu_V (As := [.int (nI v)]) (rest := []) (wc := [(h0, .inr (0, [.ref q0, .int (nI n)])), (q0, .inl (T 0, 440, .inl f))]) (wr := []) ⟨hx, hb, hml, hown, hts⟩ (c_X2_append l D T g s.heap.size h0 q0 f n (nI v) (by omega)) (cwV 1 hts gX2_squeezeIn_X2_append rfl rfl rfl (by decide +kernel) ⟨Nat.le_of_ble_eq_true rfl, Nat.le_of_ble_eq_true rfl⟩) (va_recv hK hP (ci := 0) (q0 := 0) rfl rfl) hP hD hK hG hS hA [0, 1] [] rfl (by decide) rfl (by decide) (by decide) ⟨Nat.le_of_ble_eq_true rfl, Nat.le_of_ble_eq_true rfl⟩ rfl hl.1 (Nat.le_of_ble_eq_true rfl) dX2_squeezeIn_2 rfl (fun u H locs hq1 hP hD hS => ?_)
  have hP : va_P D cls [(h0, .inr (0, [.ref q0, .int (nI (n + 1))])), (q0, .inl (T 0, 440, .inl (upd f n (nI v))))] H := hP
  have hD : va_D A [(h0, .inr (0, [.ref q0, .int (nI (n + 1))])), (q0, .inl (T 0, 440, .inl (upd f n (nI v))))] := hD
  refine W.eq (g2 := F0 m 5 ls []) rfl ?_
  refine lv_aload_n hx hb dX2_squeezeIn_5 rfl (lv_at hl 0 rfl) ?_
  refine va_get (D := D) (ci := 0) (v := .int (nI (n + 1))) (C := RX2) (T := TX2) (N := 2) hx hb hts hi_X2 hown hK hP 0 rfl rfl 1 (by decide) (hts _ (List.mem_of_getElem? (i := 1) rfl)) (fun _ h9 => h9) rfl dX2_squeezeIn_6 ?_
  refine lv_iconst (v := (nI 1)) hx hb dX2_squeezeIn_9 (by decide +kernel) ?_
  refine ln_sub hx hb (by omega) dX2_squeezeIn_10 ?_
  rw [show (n + 1) - 1 = n from by omega]
  refine lv_istore_n (lv' := [(3, .int (nI n)), (0, .ref h0), (1, .int (nI p9)), (2, .int (nI v))]) hx hb dX2_squeezeIn_11 rfl hl (by decide) rfl (fun ls hl => ?_)
  have K2 : ∀ (N9 : Nat) (i : Nat) (F : Nat → Int32) (B : Nat → Nat), (p9 ≤ i ∧ i ≤ n) → (RB F (n + 1) B) → (∀ j, j < i → B j = b j) → (∀ j, i < j → j ≤ n → B j = b (j - 1)) → i < N9 → ∀ (H : Heap) (locs : List Loc), va_P D cls [(h0, .inr (0, [.ref q0, .int (nI (n + 1))])), (q0, .inl (T 0, 440, .inl F))] H → va_D A [(h0, .inr (0, [.ref q0, .int (nI (n + 1))])), (q0, .inl (T 0, 440, .inl F))] → va_S A s.heap H locs → ∀ ls : Array Slot, lv_has ls 4 [(0, .ref h0), (1, .int (nI p9)), (2, .int (nI v)), (3, .int (nI i))] → W p l e (headSpec wsX2_squeezeIn ({ frames := 1, cells := 0, slots := 0, locals := 22 } : Room)).room s m ([.ref h0, .int (nI p9), .int (nI v)] : List Value).toArray below meth c H locs 0 0 (MQ below (QM D T A (fun u : Nat → Int32 => none) (fun u : Nat → Int32 => RB u (n + 1) (insN b p9 v)) (fun u : Nat → Int32 => [(h0, .inr (0, [.ref q0, .int (nI (n + 1))])), (q0, .inl (T 0, 440, .inl u))])) ([.ref h0, .int (nI p9), .int (nI v)] : List Value).toArray s 0 0 A) (F0 m 12 ls []) := by
    intro N9
    induction N9 with
    | zero => intro i F B hi hF hlo hhi h9; exact absurd h9 (Nat.not_lt_zero _)
    | succ N9 ih =>
      intro i F B hi hF hlo hhi h9 H locs hP hD hS ls hl
      refine lv_iload_n hx hb dX2_squeezeIn_12 rfl (lv_at hl 3 rfl) ?_
      refine lv_iload_n hx hb dX2_squeezeIn_13 rfl (lv_at hl 1 rfl) ?_
      refine ln_icmp_le (tgt := 35) hx hb ⟨by omega, by omega⟩ dX2_squeezeIn_14 (by decide) (fun c_14 => ?_) (fun c_14 => ?_)
      · have e9 : i = p9 := by omega
        refine lv_aload_n hx hb dX2_squeezeIn_35 rfl (lv_at hl 0 rfl) ?_
        refine lv_iload_n hx hb dX2_squeezeIn_36 rfl (lv_at hl 1 rfl) ?_
        refine lv_iload_n hx hb dX2_squeezeIn_37 rfl (lv_at hl 2 rfl) ?_
        refine mu_V (As := [.int (nI p9), .int (nI v)]) (rest := []) (wc := [(h0, .inr (0, [.ref q0, .int (nI (n + 1))])), (q0, .inl (T 0, 440, .inl F))]) (wr := []) ⟨hx, hb, hml, hown, hts⟩ (c_X2_replace l D T g H.size h0 q0 F (n + 1) p9 (nI v) (by omega)) (cwV 2 hts gX2_squeezeIn_X2_replace rfl rfl rfl (by decide +kernel) ⟨Nat.le_of_ble_eq_true rfl, Nat.le_of_ble_eq_true rfl⟩) (va_recv hK hP (ci := 0) (q0 := 0) rfl rfl) hP hD hK hG hS hA [0, 1] [] rfl (by decide) rfl (by decide) (by decide) ⟨Nat.le_of_ble_eq_true rfl, Nat.le_of_ble_eq_true rfl⟩ rfl hl.1 (Nat.le_of_ble_eq_true rfl) dX2_squeezeIn_38 rfl (fun u H locs hq3 hP hD hS => ?_)
        have hP : va_P D cls [(h0, .inr (0, [.ref q0, .int (nI (n + 1))])), (q0, .inl (T 0, 440, .inl (upd F p9 (nI v))))] H := hP
        have hD : va_D A [(h0, .inr (0, [.ref q0, .int (nI (n + 1))])), (q0, .inl (T 0, 440, .inl (upd F p9 (nI v))))] := hD
        refine W.eq (g2 := F0 m 41 ls []) rfl ?_
        have hP9 := hP.sub (ws' := [(h0, .inr (0, [.ref q0, .int (nI (n + 1))])), (q0, .inl (T 0, 440, .inl (upd F p9 (nI v))))]) [0, 1] rfl
        have hD9 := hD.sub (ws' := [(h0, .inr (0, [.ref q0, .int (nI (n + 1))])), (q0, .inl (T 0, 440, .inl (upd F p9 (nI v))))]) [0, 1] (by decide) rfl
        exact W.vret hx hb hr (fun t ht hW => ⟨⟨upd F p9 (nI v), rfl, RB_cong (RB_upd hF p9 hv9) (fun j hj => by
              simp only [upN, insN]
              by_cases e1 : j = p9
              · rw [if_pos e1, if_neg (by omega), if_pos e1]
              · rw [if_neg e1]
                by_cases e2 : j < p9
                · rw [if_pos e2]; exact hlo j (by omega)
                · rw [if_neg e2, if_neg e1]; exact hhi j (by omega) (by omega)), (by rw [ht]; exact hP9), va_K.moved hW.alike hK, hD9⟩, hS.F ht⟩) hS.2.2 dX2_squeezeIn_41
      · refine lv_aload_n hx hb dX2_squeezeIn_17 rfl (lv_at hl 0 rfl) ?_
        refine lv_iload_n hx hb dX2_squeezeIn_18 rfl (lv_at hl 3 rfl) ?_
        refine lv_aload_n hx hb dX2_squeezeIn_19 rfl (lv_at hl 0 rfl) ?_
        refine lv_iload_n hx hb dX2_squeezeIn_20 rfl (lv_at hl 3 rfl) ?_
        refine lv_iconst (v := (nI 1)) hx hb dX2_squeezeIn_21 (by decide +kernel) ?_
        refine ln_sub hx hb (by omega) dX2_squeezeIn_22 ?_
        refine ro_V (As := [.int (nI (i - 1))]) (rest := [.int (nI i), .ref h0]) (wc := [(h0, .inr (0, [.ref q0, .int (nI (n + 1))])), (q0, .inl (T 0, 440, .inl F))]) (r := .int (nI (B (i - 1)))) ⟨hx, hb, hml, hown, hts⟩ (c_X2_atB l D T g h0 q0 F (n + 1) (i - 1) B hF (by omega)) (cwV 1 hts gX2_squeezeIn_X2_at rfl rfl rfl (by decide +kernel) ⟨Nat.le_of_ble_eq_true rfl, Nat.le_of_ble_eq_true rfl⟩) (va_recv hK hP (ci := 0) (q0 := 0) rfl rfl) hP hK hG hS [0, 1] rfl ⟨Nat.zero_le _, Nat.zero_le _⟩ rfl hl.1 (Nat.le_of_ble_eq_true rfl) dX2_squeezeIn_23 rfl ?_
        refine mu_V (As := [.int (nI i), .int (nI (B (i - 1)))]) (rest := []) (wc := [(h0, .inr (0, [.ref q0, .int (nI (n + 1))])), (q0, .inl (T 0, 440, .inl F))]) (wr := []) ⟨hx, hb, hml, hown, hts⟩ (c_X2_replace l D T g H.size h0 q0 F (n + 1) i (nI (B (i - 1))) (by omega)) (cwV 2 hts gX2_squeezeIn_X2_replace rfl rfl rfl (by decide +kernel) ⟨Nat.le_of_ble_eq_true rfl, Nat.le_of_ble_eq_true rfl⟩) (va_recv hK hP (ci := 0) (q0 := 0) rfl rfl) hP hD hK hG hS hA [0, 1] [] rfl (by decide) rfl (by decide) (by decide) ⟨Nat.le_of_ble_eq_true rfl, Nat.le_of_ble_eq_true rfl⟩ rfl hl.1 (Nat.le_of_ble_eq_true rfl) dX2_squeezeIn_26 rfl (fun u H locs hq4 hP hD hS => ?_)
        have hP : va_P D cls [(h0, .inr (0, [.ref q0, .int (nI (n + 1))])), (q0, .inl (T 0, 440, .inl (upd F i (nI (B (i - 1))))))] H := hP
        have hD : va_D A [(h0, .inr (0, [.ref q0, .int (nI (n + 1))])), (q0, .inl (T 0, 440, .inl (upd F i (nI (B (i - 1))))))] := hD
        refine W.eq (g2 := F0 m 29 ls []) rfl ?_
        refine lv_iinc (v := (nI (i - 1))) (lv' := [(3, .int (nI (i - 1))), (0, .ref h0), (1, .int (nI p9)), (2, .int (nI v))]) hx hb dX2_squeezeIn_29 hl (k := 3) rfl (ni_dec (by omega)) (by decide) rfl (fun ls hl => ?_)
        refine lv_goto (tgt := 12) hx hb dX2_squeezeIn_32 (by decide) ?_
        exact ih (i - 1) (upd F i (nI (B (i - 1)))) (upN B i (B (i - 1))) (by omega) (RB_upd hF _ (hF.2 _ (by omega)).2) (fun j hj => (if_neg (by omega)).trans (hlo j (by omega))) (fun j hj hk => by
              by_cases e9 : j = i
              · subst e9; simp only [upN, if_true]; exact hlo _ (by omega)
              · simp only [upN, if_neg e9]; exact hhi j (by omega) hk) (by omega) _ _ (hP.sub (ws' := [(h0, .inr (0, [.ref q0, .int (nI (n + 1))])), (q0, .inl (T 0, 440, .inl (upd F i (nI (B (i - 1))))))]) [0, 1] rfl) (hD.sub (ws' := [(h0, .inr (0, [.ref q0, .int (nI (n + 1))])), (q0, .inl (T 0, 440, .inl (upd F i (nI (B (i - 1))))))]) [0, 1] (by decide) rfl) hS ls (lv_sub hl [1, 2, 3, 0] rfl)
  exact K2 _ n (upd f n (nI v)) (upN b n v) (by omega) (RB_app hb9 (by omega) hv9) (fun j hj => if_neg (by omega)) (fun j hj hk => absurd hk (by omega)) (Nat.lt_succ_self _) H locs (hP.sub (ws' := [(h0, .inr (0, [.ref q0, .int (nI (n + 1))])), (q0, .inl (T 0, 440, .inl (upd f n (nI v))))]) [0, 1] rfl) (hD.sub (ws' := [(h0, .inr (0, [.ref q0, .int (nI (n + 1))])), (q0, .inl (T 0, 440, .inl (upd f n (nI v))))]) [0, 1] (by decide) rfl) hS ls (lv_sub hl [1, 2, 3, 0] rfl)
