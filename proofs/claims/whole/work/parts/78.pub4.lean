/-- whether the given numbers are bytes, so many of them -/
noncomputable def arB (mm : Int32) (g : Nat → Int32) : Bool := @decide (nI 1 ≤ mm ∧ mm ≤ nI 8 ∧ ∀ j, j < 8 → nI j < mm → byB (g j) = true) (Classical.propDecidable _)
theorem ar_y {m : Nat} {g : Nat → Int32} {v : Nat → Nat} (h : 1 ≤ m ∧ m ≤ 8) (hg : ∀ j, j < m → g j = nI (v j) ∧ v j < 256) : arB (nI m) g = true := @decide_eq_true _ (Classical.propDecidable _) ⟨nI_le h.1 (by omega), nI_le h.2 (by decide), fun j hj hm => by
  have hm := (nI_ltI (by omega) (by omega)).mp hm
  rw [(hg j hm).1]; exact byB_y (hg j hm).2⟩
theorem ar_m {mm : Int32} {g : Nat → Int32} (h : mm < nI 1 ∨ ¬ mm ≤ nI 8) : arB mm g = false := @decide_eq_false _ (Classical.propDecidable _) (fun z => h.elim (fun q => Int32.not_le.mpr q z.1) (fun q => q z.2.1))
theorem ar_b {m z : Nat} {g : Nat → Int32} (hm : m ≤ 8) (hz : z < m) (h : g z < 0 ∨ nI 255 < g z) : arB (nI m) g = false := @decide_eq_false _ (Classical.propDecidable _) (fun q => by
  have := q.2.2 z (by omega) (nI_lt hz (by omega))
  rw [byB_n h] at this; cases this)
theorem ar_s {mm : Int32} {g : Nat → Int32} {k : Nat} (h : ∀ j, j < k → nI j < mm → byB (g j) = true) (hq : nI k < mm → byB (g k) = true) : ∀ j, j < k + 1 → nI j < mm → byB (g j) = true := fun j hj hm => by
  rcases Nat.lt_or_ge j k with r | r
  · exact h j r hm
  · have e : j = k := by omega
    subst e; exact hq hm
theorem ar_n {mm : Int32} {g : Nat → Int32} {k : Nat} (hk : k < 8) (hm : nI k < mm) (h : byB (g k) = false) : arB mm g = false := @decide_eq_false _ (Classical.propDecidable _) (fun q => by
  have := q.2.2 k hk hm
  rw [h] at this; cases this)
theorem lt_le {a : Int32} {k : Nat} (hk : k < 100) (h : ¬ a < nI (k + 1)) : nI k < a := by
  have h := Int32.not_lt.mp h
  rw [Int32.le_iff_toInt_le, nI_toInt (by omega)] at h
  rw [Int32.lt_iff_toInt_lt, nI_toInt (by omega)]; omega
theorem lt_le' {a : Int32} {k : Nat} (hk : k < 100) (h : a < nI (k + 1)) : ¬ nI k < a := by
  rw [Int32.lt_iff_toInt_lt, nI_toInt (by omega)] at h
  intro z
  rw [Int32.lt_iff_toInt_lt, nI_toInt (by omega)] at z; omega
theorem MR_cat {fl fb : Nat → Int32} {N : Nat → Nat} {Bw : Nat → Nat → Nat} {i t : Nat} {v : Nat → Nat} (h : MR fl fb (upA (upA N i (N i + t)) i (upA N i (N i + t) i + 1)) (upA (upA Bw i (catN (Bw i) (N i) v)) i (upN (upA Bw i (catN (Bw i) (N i) v) i) (upA N i (N i + t) i) (v t)))) (hi : i < 6) : MR fl fb (upA N i (N i + (t + 1))) (upA Bw i (catN (Bw i) (N i) v)) := by
  intro j hj
  have h0 := h j hj
  by_cases e : j = i
  · subst e
    rw [upA_s, upA_s, upA_s, upA_s] at h0
    rw [upA_s, upA_s]
    refine ⟨h0.1, RW_cong h0.2 (fun x hx => ?_)⟩
    simp only [upN]
    by_cases q : x = N j + t
    · rw [if_pos q, q, cat_v]
    · rw [if_neg q]
  · rw [upA_n _ _ e, upA_n _ _ e, upA_n _ _ e, upA_n _ _ e] at h0
    rw [upA_n _ _ e, upA_n _ _ e]; exact h0
theorem MR_cat0 {fl fb : Nat → Int32} {N : Nat → Nat} {Bw : Nat → Nat → Nat} (h : MR fl fb N Bw) (i : Nat) (v : Nat → Nat) : MR fl fb (upA N i (N i + 0)) (upA Bw i (catN (Bw i) (N i) v)) := by
  intro j hj
  have h0 := h j hj
  by_cases e : j = i
  · subst e
    rw [upA_s, upA_s]
    exact ⟨h0.1, RW_cong h0.2 (fun x hx => (cat_b hx).symm)⟩
  · rw [upA_n _ _ e, upA_n _ _ e]; exact h0
set_option maxHeartbeats 4000000 in
set_option maxRecDepth 100000 in
theorem m_addMore_1 (l : Launch) (D : va_G) (T : Nat → ClassId) (g : Nat → Nat) (sz : Nat) (m0 : Nat) (mb : Nat) (ml : Nat) (mm : Nat) (mk : Nat) (many : Nat) (th : Int32) (fb : Nat → Int32) (fl : Nat → Int32) (fm : Nat → Int32) (fk : Nat → Int32) (N : Nat → Nat) (Bw : Nat → Nat → Nat) (hMR : MR fl fb N Bw) (i : Int32) (hi : i < 0 ∨ nI 5 < i) (m9 : Int32) (y0 : Int32) (y1 : Int32) (y2 : Int32) (y3 : Int32) (y4 : Int32) (y5 : Int32) (y6 : Int32) (y7 : Int32) : MU l yX6_addMore wsX6_addMore ({ frames := 62, cells := 0, slots := 0, locals := 3100 } : Room) D T g [.ref m0, .int i, .int m9, .int y0, .int y1, .int y2, .int y3, .int y4, .int y5, .int y6, .int y7] [(m0, .inr (3, [.ref mb, .ref ml, .ref mm, .int (nI many), .int th, .ref mk])), (mb, .inl (T 0, 1920, .inl fb)), (ml, .inl (T 0, 6, .inl fl)), (mm, .inl (T 0, 600, .inl fm)), (mk, .inl (T 0, 320, .inl fk))] sz (fun u : Nat × Int32 × (Nat → Int32) × (Nat → Int32) × (Nat → Int32) × (Nat → Int32) => some (.int (nI 0))) (fun u : Nat × Int32 × (Nat → Int32) × (Nat → Int32) × (Nat → Int32) × (Nat → Int32) => u.2.1 = nI 1 ∧ MR u.2.2.2.1 u.2.2.1 (N) (Bw)) (fun u : Nat × Int32 × (Nat → Int32) × (Nat → Int32) × (Nat → Int32) × (Nat → Int32) => [(m0, .inr (3, [.ref mb, .ref ml, .ref mm, .int (nI u.1), .int u.2.1, .ref mk])), (mb, .inl (T 0, 1920, .inl u.2.2.1)), (ml, .inl (T 0, 6, .inl u.2.2.2.1)), (mm, .inl (T 0, 600, .inl u.2.2.2.2.1)), (mk, .inl (T 0, 320, .inl u.2.2.2.2.2))]) 0 0 := by
  refine Met.ofW (cc := cX6_addMore) (maxL := 13) (ret := (some .int)) (by decide) rfl ?_
  intro p e s m args below meth c s₁ B hml hv
  obtain ⟨rfl, hsz, hP, hK, hD0, hG⟩ := hv
  have hx := B.exec
  have hb := B.bytes
  have hr := B.returns
  have hts := atoms_spec (ws := wsX6_addMore) B.pre
  have hown : s.vm.findClass RX6 = some m.cls := findClass_of_methodNamed B.named
  have hlocks := B.notSynchronized
  subst hsz
  have hD := hD0.self (sz := s.heap.size)
  generalize hAe : va_A [(m0, .inr (3, [.ref mb, .ref ml, .ref mm, .int (nI many), .int th, .ref mk])), (mb, .inl (T 0, 1920, .inl fb)), (ml, .inl (T 0, 6, .inl fl)), (mm, .inl (T 0, 600, .inl fm)), (mk, .inl (T 0, 320, .inl fk))] s.heap.size = A at hD hG ⊢
  have hA : ∀ q : Nat, s.heap.size ≤ q → A q := fun q h => by rw [← hAe]; exact Or.inr h
  have hS : va_S A s.heap s.heap [] := va_S.rf
  have hP : va_P D cls [(m0, .inr (3, [.ref mb, .ref ml, .ref mm, .int (nI many), .int th, .ref mk])), (mb, .inl (T 0, 1920, .inl fb)), (ml, .inl (T 0, 6, .inl fl)), (mm, .inl (T 0, 600, .inl fm)), (mk, .inl (T 0, 320, .inl fk))] s.heap := hP
  have hl := lv_entry ([.ref m0, .int i, .int m9, .int y0, .int y1, .int y2, .int y3, .int y4, .int y5, .int y6, .int y7]) (n := 13) (Nat.le_of_ble_eq_true rfl)
  rw [lg_entry_eq]
  generalize (lg_sl ([.ref m0, .int i, .int m9, .int y0, .int y1, .int y2, .int y3, .int y4, .int y5, .int y6, .int y7]) ++ List.replicate (13 - (lg_sl ([.ref m0, .int i, .int m9, .int y0, .int y1, .int y2, .int y3, .int y4, .int y5, .int y6, .int y7])).length) Slot.unset).toArray = ls at hl ⊢
  have hl : lv_has ls 13 [(0, .ref m0), (1, .int i), (2, .int m9), (3, .int y0), (4, .int y1), (5, .int y2), (6, .int y3), (7, .int y4), (8, .int y5), (9, .int y6), (10, .int y7)] := hl
  have J1 : ∀ (r9 : Bool), (r9 = arB m9 (gvN y0 y1 y2 y3 y4 y5 y6 y7)) → ∀ ls : Array Slot, lv_has ls 13 [(0, .ref m0), (1, .int i), (2, .int m9), (3, .int y0), (4, .int y1), (5, .int y2), (6, .int y3), (7, .int y4), (8, .int y5), (9, .int y6), (10, .int y7)] → W p l e (headSpec wsX6_addMore ({ frames := 62, cells := 0, slots := 0, locals := 3100 } : Room)).room s m ([.ref m0, .int i, .int m9, .int y0, .int y1, .int y2, .int y3, .int y4, .int y5, .int y6, .int y7] : List Value).toArray below meth c s.heap [] 0 0 (MQ below (QM D T A (fun u : Nat × Int32 × (Nat → Int32) × (Nat → Int32) × (Nat → Int32) × (Nat → Int32) => some (.int (nI 0))) (fun u : Nat × Int32 × (Nat → Int32) × (Nat → Int32) × (Nat → Int32) × (Nat → Int32) => u.2.1 = nI 1 ∧ MR u.2.2.2.1 u.2.2.1 (N) (Bw)) (fun u : Nat × Int32 × (Nat → Int32) × (Nat → Int32) × (Nat → Int32) × (Nat → Int32) => [(m0, .inr (3, [.ref mb, .ref ml, .ref mm, .int (nI u.1), .int u.2.1, .ref mk])), (mb, .inl (T 0, 1920, .inl u.2.2.1)), (ml, .inl (T 0, 6, .inl u.2.2.2.1)), (mm, .inl (T 0, 600, .inl u.2.2.2.2.1)), (mk, .inl (T 0, 320, .inl u.2.2.2.2.2))])) ([.ref m0, .int i, .int m9, .int y0, .int y1, .int y2, .int y3, .int y4, .int y5, .int y6, .int y7] : List Value).toArray s 0 0 A) (F0 m 125 ls [.int (bI r9)]) := by
    intro r9 hr9 ls hl
    refine lv_istore (lv' := [(11, .int (bI r9)), (0, .ref m0), (1, .int i), (2, .int m9), (3, .int y0), (4, .int y1), (5, .int y2), (6, .int y3), (7, .int y4), (8, .int y5), (9, .int y6), (10, .int y7)]) hx hb dX6_addMore_125 hl (by decide) rfl (fun ls hl => ?_)
    refine lv_aload_n hx hb dX6_addMore_127 rfl (lv_at hl 1 rfl) ?_
    refine lv_aload_n hx hb dX6_addMore_128 rfl (lv_at hl 1 rfl) ?_
    refine lv_iload_n hx hb dX6_addMore_129 rfl (lv_at hl 2 rfl) ?_
    refine ro_V (As := [.int i]) (rest := [.ref m0]) (wc := []) (r := .int (nI 0)) ⟨hx, hb, hml, hown, hts⟩ (c_X6_isRow_n l D T g m0 i hi) (cwV 1 hts gX6_addMore_X6_isRow rfl rfl rfl (by decide +kernel) ⟨Nat.le_of_ble_eq_true rfl, Nat.le_of_ble_eq_true rfl⟩) (va_recv hK hP (ci := 3) (q0 := 0) rfl rfl) hP hK hG hS [] rfl ⟨Nat.zero_le _, Nat.zero_le _⟩ rfl hl.1 (Nat.le_of_ble_eq_true rfl) dX6_addMore_130 rfl ?_
    refine ln_if_ne_f (tgt := 140) hx hb (by omega) (by decide) dX6_addMore_133 (by decide) ?_
    refine lv_iconst (v := (nI 1)) hx hb dX6_addMore_136 (by decide +kernel) ?_
    refine lv_goto (tgt := 168) hx hb dX6_addMore_137 (by decide) ?_
    refine mu_V (As := [.int (nI 1)]) (rest := []) (wc := [(m0, .inr (3, [.ref mb, .ref ml, .ref mm, .int (nI many), .int th, .ref mk]))]) (wr := [(mb, .inl (T 0, 1920, .inl fb)), (ml, .inl (T 0, 6, .inl fl)), (mm, .inl (T 0, 600, .inl fm)), (mk, .inl (T 0, 320, .inl fk))]) ⟨hx, hb, hml, hown, hts⟩ (c_X6_isWrong_p l D T g s.heap.size m0 mb ml mm mk many th 1 (by omega)) (cwV 1 hts gX6_addMore_X6_isWrong rfl rfl rfl (by decide +kernel) ⟨Nat.le_of_ble_eq_true rfl, Nat.le_of_ble_eq_true rfl⟩) (va_recv hK hP (ci := 3) (q0 := 0) rfl rfl) hP hD hK hG hS hA [0] [1, 2, 3, 4] rfl (by decide) rfl (by decide) (by decide) ⟨Nat.le_of_ble_eq_true rfl, Nat.le_of_ble_eq_true rfl⟩ rfl hl.1 (Nat.le_of_ble_eq_true rfl) dX6_addMore_168 rfl (fun u H locs hq2 hP hD hS => ?_)
    have hP : va_P D cls [(mb, .inl (T 0, 1920, .inl fb)), (ml, .inl (T 0, 6, .inl fl)), (mm, .inl (T 0, 600, .inl fm)), (mk, .inl (T 0, 320, .inl fk)), (m0, .inr (3, [.ref mb, .ref ml, .ref mm, .int (nI many), .int (nI 1), .ref mk]))] H := hP
    have hD : va_D A [(mb, .inl (T 0, 1920, .inl fb)), (ml, .inl (T 0, 6, .inl fl)), (mm, .inl (T 0, 600, .inl fm)), (mk, .inl (T 0, 320, .inl fk)), (m0, .inr (3, [.ref mb, .ref ml, .ref mm, .int (nI many), .int (nI 1), .ref mk]))] := hD
    refine W.eq (g2 := F0 m 171 ls [.int (nI 1)]) rfl ?_
    refine ln_if_eq_f (tgt := 176) hx hb (by omega) (by decide) dX6_addMore_171 (by decide) ?_
    refine lv_iconst (v := (nI 0)) hx hb dX6_addMore_174 (by decide +kernel) ?_
    have hP9 := hP.sub (ws' := [(m0, .inr (3, [.ref mb, .ref ml, .ref mm, .int (nI many), .int (nI 1), .ref mk])), (mb, .inl (T 0, 1920, .inl fb)), (ml, .inl (T 0, 6, .inl fl)), (mm, .inl (T 0, 600, .inl fm)), (mk, .inl (T 0, 320, .inl fk))]) [4, 0, 1, 2, 3] rfl
    have hD9 := hD.sub (ws' := [(m0, .inr (3, [.ref mb, .ref ml, .ref mm, .int (nI many), .int (nI 1), .ref mk])), (mb, .inl (T 0, 1920, .inl fb)), (ml, .inl (T 0, 6, .inl fl)), (mm, .inl (T 0, 600, .inl fm)), (mk, .inl (T 0, 320, .inl fk))]) [4, 0, 1, 2, 3] (by decide) rfl
    exact W.iret (v := (nI 0)) hx hb hr (fun t ht hW => ⟨⟨(many, (nI 1), fb, fl, fm, fk), rfl, show (nI 1) = nI 1 ∧ MR fl fb (N) (Bw) from ⟨rfl, hMR⟩, (by rw [ht]; exact hP9), va_K.moved hW.alike hK, hD9⟩, hS.F ht⟩) hS.2.2 dX6_addMore_175
  refine lv_iconst (v := (nI 1)) hx hb dX6_addMore_0 (by decide +kernel) ?_
  refine lv_iload_n hx hb dX6_addMore_1 rfl (lv_at hl 2 rfl) ?_
  refine lv_icmp_gt (tgt := 124) hx hb dX6_addMore_2 (by decide) (fun c_2 => ?_) (fun c_2 => ?_)
  · have hr9a : false = arB m9 (gvN y0 y1 y2 y3 y4 y5 y6 y7) := (ar_m (Or.inl (by first | exact c_2 | exact nI_lt (by omega) (by omega)))).symm
    refine lv_iconst (v := nI 0) hx hb dX6_addMore_124 (by decide +kernel) ?_
    rw [show nI 0 = bI false from rfl]
    exact J1 false (hr9a) ls (lv_sub hl [0, 1, 2, 3, 4, 5, 6, 7, 8, 9, 10] rfl)
  · refine lv_iload_n hx hb dX6_addMore_5 rfl (lv_at hl 2 rfl) ?_
    refine lv_bipush (v := (nI 8)) hx hb dX6_addMore_6 (by decide +kernel) ?_
    refine lv_icmp_gt (tgt := 124) hx hb dX6_addMore_8 (by decide) (fun c_8 => ?_) (fun c_8 => ?_)
    · have hr9a : false = arB m9 (gvN y0 y1 y2 y3 y4 y5 y6 y7) := (ar_m (Or.inr (by first | exact Int32.not_le.mpr c_8 | exact nI_ge (by omega) (by omega)))).symm
      refine lv_iconst (v := nI 0) hx hb dX6_addMore_124 (by decide +kernel) ?_
      rw [show nI 0 = bI false from rfl]
      exact J1 false (hr9a) ls (lv_sub hl [0, 1, 2, 3, 4, 5, 6, 7, 8, 9, 10] rfl)
    · have hge : nI 1 ≤ m9 := Int32.not_lt.mp c_2
      refine lv_aload_n hx hb dX6_addMore_11 rfl (lv_at hl 0 rfl) ?_
      refine lv_iload_n hx hb dX6_addMore_12 rfl (lv_at hl 3 rfl) ?_
      refine ro_V (As := [.int y0]) (rest := []) (wc := []) (r := .int (bI (byB y0))) ⟨hx, hb, hml, hown, hts⟩ (c_X6_isByte l D T g m0 y0) (cwV 1 hts gX6_addMore_X6_isByte rfl rfl rfl (by decide +kernel) ⟨Nat.le_of_ble_eq_true rfl, Nat.le_of_ble_eq_true rfl⟩) (va_recv hK hP (ci := 3) (q0 := 0) rfl rfl) hP hK hG hS [] rfl ⟨Nat.zero_le _, Nat.zero_le _⟩ rfl hl.1 (Nat.le_of_ble_eq_true rfl) dX6_addMore_13 rfl ?_
      refine lv_if_eq (tgt := 124) hx hb dX6_addMore_16 (by decide) (fun c_16 => ?_) (fun c_16 => ?_)
      · have hr9a : false = arB m9 (gvN y0 y1 y2 y3 y4 y5 y6 y7) := (ar_n (k := 0) (by decide) (lt_le (by decide) (fun z => Int32.not_le.mpr z hge)) (bI_z.mp c_16)).symm
        refine lv_iconst (v := nI 0) hx hb dX6_addMore_124 (by decide +kernel) ?_
        rw [show nI 0 = bI false from rfl]
        exact J1 false (hr9a) ls (lv_sub hl [0, 1, 2, 3, 4, 5, 6, 7, 8, 9, 10] rfl)
      · have hk1 : ∀ j, j < 1 → nI j < m9 → byB (gvN y0 y1 y2 y3 y4 y5 y6 y7 j) = true := fun j hj _ => by have e : j = 0 := (by omega); subst e; exact bI_nz.mp c_16
        have J3 : (∀ j, j < 2 → nI j < m9 → byB (gvN y0 y1 y2 y3 y4 y5 y6 y7 j) = true) → ∀ ls : Array Slot, lv_has ls 13 [(0, .ref m0), (1, .int i), (2, .int m9), (3, .int y0), (4, .int y1), (5, .int y2), (6, .int y3), (7, .int y4), (8, .int y5), (9, .int y6), (10, .int y7)] → W p l e (headSpec wsX6_addMore ({ frames := 62, cells := 0, slots := 0, locals := 3100 } : Room)).room s m ([.ref m0, .int i, .int m9, .int y0, .int y1, .int y2, .int y3, .int y4, .int y5, .int y6, .int y7] : List Value).toArray below meth c s.heap [] 0 0 (MQ below (QM D T A (fun u : Nat × Int32 × (Nat → Int32) × (Nat → Int32) × (Nat → Int32) × (Nat → Int32) => some (.int (nI 0))) (fun u : Nat × Int32 × (Nat → Int32) × (Nat → Int32) × (Nat → Int32) × (Nat → Int32) => u.2.1 = nI 1 ∧ MR u.2.2.2.1 u.2.2.1 (N) (Bw)) (fun u : Nat × Int32 × (Nat → Int32) × (Nat → Int32) × (Nat → Int32) × (Nat → Int32) => [(m0, .inr (3, [.ref mb, .ref ml, .ref mm, .int (nI u.1), .int u.2.1, .ref mk])), (mb, .inl (T 0, 1920, .inl u.2.2.1)), (ml, .inl (T 0, 6, .inl u.2.2.2.1)), (mm, .inl (T 0, 600, .inl u.2.2.2.2.1)), (mk, .inl (T 0, 320, .inl u.2.2.2.2.2))])) ([.ref m0, .int i, .int m9, .int y0, .int y1, .int y2, .int y3, .int y4, .int y5, .int y6, .int y7] : List Value).toArray s 0 0 A) (F0 m 33 ls []) := by
          intro  hk2 ls hl
          have J4 : (∀ j, j < 3 → nI j < m9 → byB (gvN y0 y1 y2 y3 y4 y5 y6 y7 j) = true) → ∀ ls : Array Slot, lv_has ls 13 [(0, .ref m0), (1, .int i), (2, .int m9), (3, .int y0), (4, .int y1), (5, .int y2), (6, .int y3), (7, .int y4), (8, .int y5), (9, .int y6), (10, .int y7)] → W p l e (headSpec wsX6_addMore ({ frames := 62, cells := 0, slots := 0, locals := 3100 } : Room)).room s m ([.ref m0, .int i, .int m9, .int y0, .int y1, .int y2, .int y3, .int y4, .int y5, .int y6, .int y7] : List Value).toArray below meth c s.heap [] 0 0 (MQ below (QM D T A (fun u : Nat × Int32 × (Nat → Int32) × (Nat → Int32) × (Nat → Int32) × (Nat → Int32) => some (.int (nI 0))) (fun u : Nat × Int32 × (Nat → Int32) × (Nat → Int32) × (Nat → Int32) × (Nat → Int32) => u.2.1 = nI 1 ∧ MR u.2.2.2.1 u.2.2.1 (N) (Bw)) (fun u : Nat × Int32 × (Nat → Int32) × (Nat → Int32) × (Nat → Int32) × (Nat → Int32) => [(m0, .inr (3, [.ref mb, .ref ml, .ref mm, .int (nI u.1), .int u.2.1, .ref mk])), (mb, .inl (T 0, 1920, .inl u.2.2.1)), (ml, .inl (T 0, 6, .inl u.2.2.2.1)), (mm, .inl (T 0, 600, .inl u.2.2.2.2.1)), (mk, .inl (T 0, 320, .inl u.2.2.2.2.2))])) ([.ref m0, .int i, .int m9, .int y0, .int y1, .int y2, .int y3, .int y4, .int y5, .int y6, .int y7] : List Value).toArray s 0 0 A) (F0 m 47 ls []) := by
            intro  hk3 ls hl
            have J5 : (∀ j, j < 4 → nI j < m9 → byB (gvN y0 y1 y2 y3 y4 y5 y6 y7 j) = true) → ∀ ls : Array Slot, lv_has ls 13 [(0, .ref m0), (1, .int i), (2, .int m9), (3, .int y0), (4, .int y1), (5, .int y2), (6, .int y3), (7, .int y4), (8, .int y5), (9, .int y6), (10, .int y7)] → W p l e (headSpec wsX6_addMore ({ frames := 62, cells := 0, slots := 0, locals := 3100 } : Room)).room s m ([.ref m0, .int i, .int m9, .int y0, .int y1, .int y2, .int y3, .int y4, .int y5, .int y6, .int y7] : List Value).toArray below meth c s.heap [] 0 0 (MQ below (QM D T A (fun u : Nat × Int32 × (Nat → Int32) × (Nat → Int32) × (Nat → Int32) × (Nat → Int32) => some (.int (nI 0))) (fun u : Nat × Int32 × (Nat → Int32) × (Nat → Int32) × (Nat → Int32) × (Nat → Int32) => u.2.1 = nI 1 ∧ MR u.2.2.2.1 u.2.2.1 (N) (Bw)) (fun u : Nat × Int32 × (Nat → Int32) × (Nat → Int32) × (Nat → Int32) × (Nat → Int32) => [(m0, .inr (3, [.ref mb, .ref ml, .ref mm, .int (nI u.1), .int u.2.1, .ref mk])), (mb, .inl (T 0, 1920, .inl u.2.2.1)), (ml, .inl (T 0, 6, .inl u.2.2.2.1)), (mm, .inl (T 0, 600, .inl u.2.2.2.2.1)), (mk, .inl (T 0, 320, .inl u.2.2.2.2.2))])) ([.ref m0, .int i, .int m9, .int y0, .int y1, .int y2, .int y3, .int y4, .int y5, .int y6, .int y7] : List Value).toArray s 0 0 A) (F0 m 61 ls []) := by
              intro  hk4 ls hl
              have J6 : (∀ j, j < 5 → nI j < m9 → byB (gvN y0 y1 y2 y3 y4 y5 y6 y7 j) = true) → ∀ ls : Array Slot, lv_has ls 13 [(0, .ref m0), (1, .int i), (2, .int m9), (3, .int y0), (4, .int y1), (5, .int y2), (6, .int y3), (7, .int y4), (8, .int y5), (9, .int y6), (10, .int y7)] → W p l e (headSpec wsX6_addMore ({ frames := 62, cells := 0, slots := 0, locals := 3100 } : Room)).room s m ([.ref m0, .int i, .int m9, .int y0, .int y1, .int y2, .int y3, .int y4, .int y5, .int y6, .int y7] : List Value).toArray below meth c s.heap [] 0 0 (MQ below (QM D T A (fun u : Nat × Int32 × (Nat → Int32) × (Nat → Int32) × (Nat → Int32) × (Nat → Int32) => some (.int (nI 0))) (fun u : Nat × Int32 × (Nat → Int32) × (Nat → Int32) × (Nat → Int32) × (Nat → Int32) => u.2.1 = nI 1 ∧ MR u.2.2.2.1 u.2.2.1 (N) (Bw)) (fun u : Nat × Int32 × (Nat → Int32) × (Nat → Int32) × (Nat → Int32) × (Nat → Int32) => [(m0, .inr (3, [.ref mb, .ref ml, .ref mm, .int (nI u.1), .int u.2.1, .ref mk])), (mb, .inl (T 0, 1920, .inl u.2.2.1)), (ml, .inl (T 0, 6, .inl u.2.2.2.1)), (mm, .inl (T 0, 600, .inl u.2.2.2.2.1)), (mk, .inl (T 0, 320, .inl u.2.2.2.2.2))])) ([.ref m0, .int i, .int m9, .int y0, .int y1, .int y2, .int y3, .int y4, .int y5, .int y6, .int y7] : List Value).toArray s 0 0 A) (F0 m 75 ls []) := by
                intro  hk5 ls hl
                have J7 : (∀ j, j < 6 → nI j < m9 → byB (gvN y0 y1 y2 y3 y4 y5 y6 y7 j) = true) → ∀ ls : Array Slot, lv_has ls 13 [(0, .ref m0), (1, .int i), (2, .int m9), (3, .int y0), (4, .int y1), (5, .int y2), (6, .int y3), (7, .int y4), (8, .int y5), (9, .int y6), (10, .int y7)] → W p l e (headSpec wsX6_addMore ({ frames := 62, cells := 0, slots := 0, locals := 3100 } : Room)).room s m ([.ref m0, .int i, .int m9, .int y0, .int y1, .int y2, .int y3, .int y4, .int y5, .int y6, .int y7] : List Value).toArray below meth c s.heap [] 0 0 (MQ below (QM D T A (fun u : Nat × Int32 × (Nat → Int32) × (Nat → Int32) × (Nat → Int32) × (Nat → Int32) => some (.int (nI 0))) (fun u : Nat × Int32 × (Nat → Int32) × (Nat → Int32) × (Nat → Int32) × (Nat → Int32) => u.2.1 = nI 1 ∧ MR u.2.2.2.1 u.2.2.1 (N) (Bw)) (fun u : Nat × Int32 × (Nat → Int32) × (Nat → Int32) × (Nat → Int32) × (Nat → Int32) => [(m0, .inr (3, [.ref mb, .ref ml, .ref mm, .int (nI u.1), .int u.2.1, .ref mk])), (mb, .inl (T 0, 1920, .inl u.2.2.1)), (ml, .inl (T 0, 6, .inl u.2.2.2.1)), (mm, .inl (T 0, 600, .inl u.2.2.2.2.1)), (mk, .inl (T 0, 320, .inl u.2.2.2.2.2))])) ([.ref m0, .int i, .int m9, .int y0, .int y1, .int y2, .int y3, .int y4, .int y5, .int y6, .int y7] : List Value).toArray s 0 0 A) (F0 m 90 ls []) := by
                  intro  hk6 ls hl
                  have J8 : (∀ j, j < 7 → nI j < m9 → byB (gvN y0 y1 y2 y3 y4 y5 y6 y7 j) = true) → ∀ ls : Array Slot, lv_has ls 13 [(0, .ref m0), (1, .int i), (2, .int m9), (3, .int y0), (4, .int y1), (5, .int y2), (6, .int y3), (7, .int y4), (8, .int y5), (9, .int y6), (10, .int y7)] → W p l e (headSpec wsX6_addMore ({ frames := 62, cells := 0, slots := 0, locals := 3100 } : Room)).room s m ([.ref m0, .int i, .int m9, .int y0, .int y1, .int y2, .int y3, .int y4, .int y5, .int y6, .int y7] : List Value).toArray below meth c s.heap [] 0 0 (MQ below (QM D T A (fun u : Nat × Int32 × (Nat → Int32) × (Nat → Int32) × (Nat → Int32) × (Nat → Int32) => some (.int (nI 0))) (fun u : Nat × Int32 × (Nat → Int32) × (Nat → Int32) × (Nat → Int32) × (Nat → Int32) => u.2.1 = nI 1 ∧ MR u.2.2.2.1 u.2.2.1 (N) (Bw)) (fun u : Nat × Int32 × (Nat → Int32) × (Nat → Int32) × (Nat → Int32) × (Nat → Int32) => [(m0, .inr (3, [.ref mb, .ref ml, .ref mm, .int (nI u.1), .int u.2.1, .ref mk])), (mb, .inl (T 0, 1920, .inl u.2.2.1)), (ml, .inl (T 0, 6, .inl u.2.2.2.1)), (mm, .inl (T 0, 600, .inl u.2.2.2.2.1)), (mk, .inl (T 0, 320, .inl u.2.2.2.2.2))])) ([.ref m0, .int i, .int m9, .int y0, .int y1, .int y2, .int y3, .int y4, .int y5, .int y6, .int y7] : List Value).toArray s 0 0 A) (F0 m 105 ls []) := by
                    intro  hk7 ls hl
                    have J9 : (∀ j, j < 8 → nI j < m9 → byB (gvN y0 y1 y2 y3 y4 y5 y6 y7 j) = true) → ∀ ls : Array Slot, lv_has ls 13 [(0, .ref m0), (1, .int i), (2, .int m9), (3, .int y0), (4, .int y1), (5, .int y2), (6, .int y3), (7, .int y4), (8, .int y5), (9, .int y6), (10, .int y7)] → W p l e (headSpec wsX6_addMore ({ frames := 62, cells := 0, slots := 0, locals := 3100 } : Room)).room s m ([.ref m0, .int i, .int m9, .int y0, .int y1, .int y2, .int y3, .int y4, .int y5, .int y6, .int y7] : List Value).toArray below meth c s.heap [] 0 0 (MQ below (QM D T A (fun u : Nat × Int32 × (Nat → Int32) × (Nat → Int32) × (Nat → Int32) × (Nat → Int32) => some (.int (nI 0))) (fun u : Nat × Int32 × (Nat → Int32) × (Nat → Int32) × (Nat → Int32) × (Nat → Int32) => u.2.1 = nI 1 ∧ MR u.2.2.2.1 u.2.2.1 (N) (Bw)) (fun u : Nat × Int32 × (Nat → Int32) × (Nat → Int32) × (Nat → Int32) × (Nat → Int32) => [(m0, .inr (3, [.ref mb, .ref ml, .ref mm, .int (nI u.1), .int u.2.1, .ref mk])), (mb, .inl (T 0, 1920, .inl u.2.2.1)), (ml, .inl (T 0, 6, .inl u.2.2.2.1)), (mm, .inl (T 0, 600, .inl u.2.2.2.2.1)), (mk, .inl (T 0, 320, .inl u.2.2.2.2.2))])) ([.ref m0, .int i, .int m9, .int y0, .int y1, .int y2, .int y3, .int y4, .int y5, .int y6, .int y7] : List Value).toArray s 0 0 A) (F0 m 120 ls []) := by
                      intro  hk8 ls hl
                      have hr9a : true = arB m9 (gvN y0 y1 y2 y3 y4 y5 y6 y7) := (@decide_eq_true _ (Classical.propDecidable _) ⟨hge, Int32.not_lt.mp c_8, hk8⟩).symm
                      refine lv_iconst (v := (nI 1)) hx hb dX6_addMore_120 (by decide +kernel) ?_
                      refine lv_goto (tgt := 125) hx hb dX6_addMore_121 (by decide) ?_
                      rw [show nI 1 = bI true from rfl]
                      exact J1 true (hr9a) ls (lv_sub hl [0, 1, 2, 3, 4, 5, 6, 7, 8, 9, 10] rfl)
                    refine lv_iload_n hx hb dX6_addMore_105 rfl (lv_at hl 2 rfl) ?_
                    refine lv_bipush (v := (nI 8)) hx hb dX6_addMore_106 (by decide +kernel) ?_
                    refine lv_icmp_lt (tgt := 120) hx hb dX6_addMore_108 (by decide) (fun c_108 => ?_) (fun c_108 => ?_)
                    · exact J9  (ar_s hk7 (by first | exact fun _ => bI_nz.mp c_117 | exact fun z => absurd z (lt_le' (by decide) c_108) | exact fun z => absurd ((nI_ltI (by omega) (by omega)).mp z) (by omega))) ls (lv_sub hl [0, 1, 2, 3, 4, 5, 6, 7, 8, 9, 10] rfl)
                    · refine lv_aload_n hx hb dX6_addMore_111 rfl (lv_at hl 0 rfl) ?_
                      refine lv_iload hx hb dX6_addMore_112 (lv_at hl 10 rfl) ?_
                      refine ro_V (As := [.int y7]) (rest := []) (wc := []) (r := .int (bI (byB y7))) ⟨hx, hb, hml, hown, hts⟩ (c_X6_isByte l D T g m0 y7) (cwV 1 hts gX6_addMore_X6_isByte rfl rfl rfl (by decide +kernel) ⟨Nat.le_of_ble_eq_true rfl, Nat.le_of_ble_eq_true rfl⟩) (va_recv hK hP (ci := 3) (q0 := 0) rfl rfl) hP hK hG hS [] rfl ⟨Nat.zero_le _, Nat.zero_le _⟩ rfl hl.1 (Nat.le_of_ble_eq_true rfl) dX6_addMore_114 rfl ?_
                      refine lv_if_eq (tgt := 124) hx hb dX6_addMore_117 (by decide) (fun c_117 => ?_) (fun c_117 => ?_)
                      · have hr9a : false = arB m9 (gvN y0 y1 y2 y3 y4 y5 y6 y7) := (ar_n (k := 7) (by decide) (by first | exact lt_le (by decide) c_108 | exact nI_lt (by omega) (by omega)) (bI_z.mp c_117)).symm
                        refine lv_iconst (v := nI 0) hx hb dX6_addMore_124 (by decide +kernel) ?_
                        rw [show nI 0 = bI false from rfl]
                        exact J1 false (hr9a) ls (lv_sub hl [0, 1, 2, 3, 4, 5, 6, 7, 8, 9, 10] rfl)
                      · exact J9  (ar_s hk7 (by first | exact fun _ => bI_nz.mp c_117 | exact fun z => absurd z (lt_le' (by decide) c_108) | exact fun z => absurd ((nI_ltI (by omega) (by omega)).mp z) (by omega))) ls (lv_sub hl [0, 1, 2, 3, 4, 5, 6, 7, 8, 9, 10] rfl)
                  refine lv_iload_n hx hb dX6_addMore_90 rfl (lv_at hl 2 rfl) ?_
                  refine lv_bipush (v := (nI 7)) hx hb dX6_addMore_91 (by decide +kernel) ?_
                  refine lv_icmp_lt (tgt := 105) hx hb dX6_addMore_93 (by decide) (fun c_93 => ?_) (fun c_93 => ?_)
                  · exact J8  (ar_s hk6 (by first | exact fun _ => bI_nz.mp c_102 | exact fun z => absurd z (lt_le' (by decide) c_93) | exact fun z => absurd ((nI_ltI (by omega) (by omega)).mp z) (by omega))) ls (lv_sub hl [0, 1, 2, 3, 4, 5, 6, 7, 8, 9, 10] rfl)
                  · refine lv_aload_n hx hb dX6_addMore_96 rfl (lv_at hl 0 rfl) ?_
                    refine lv_iload hx hb dX6_addMore_97 (lv_at hl 9 rfl) ?_
                    refine ro_V (As := [.int y6]) (rest := []) (wc := []) (r := .int (bI (byB y6))) ⟨hx, hb, hml, hown, hts⟩ (c_X6_isByte l D T g m0 y6) (cwV 1 hts gX6_addMore_X6_isByte rfl rfl rfl (by decide +kernel) ⟨Nat.le_of_ble_eq_true rfl, Nat.le_of_ble_eq_true rfl⟩) (va_recv hK hP (ci := 3) (q0 := 0) rfl rfl) hP hK hG hS [] rfl ⟨Nat.zero_le _, Nat.zero_le _⟩ rfl hl.1 (Nat.le_of_ble_eq_true rfl) dX6_addMore_99 rfl ?_
                    refine lv_if_eq (tgt := 124) hx hb dX6_addMore_102 (by decide) (fun c_102 => ?_) (fun c_102 => ?_)
                    · have hr9a : false = arB m9 (gvN y0 y1 y2 y3 y4 y5 y6 y7) := (ar_n (k := 6) (by decide) (by first | exact lt_le (by decide) c_93 | exact nI_lt (by omega) (by omega)) (bI_z.mp c_102)).symm
                      refine lv_iconst (v := nI 0) hx hb dX6_addMore_124 (by decide +kernel) ?_
                      rw [show nI 0 = bI false from rfl]
                      exact J1 false (hr9a) ls (lv_sub hl [0, 1, 2, 3, 4, 5, 6, 7, 8, 9, 10] rfl)
                    · exact J8  (ar_s hk6 (by first | exact fun _ => bI_nz.mp c_102 | exact fun z => absurd z (lt_le' (by decide) c_93) | exact fun z => absurd ((nI_ltI (by omega) (by omega)).mp z) (by omega))) ls (lv_sub hl [0, 1, 2, 3, 4, 5, 6, 7, 8, 9, 10] rfl)
                refine lv_iload_n hx hb dX6_addMore_75 rfl (lv_at hl 2 rfl) ?_
                refine lv_bipush (v := (nI 6)) hx hb dX6_addMore_76 (by decide +kernel) ?_
                refine lv_icmp_lt (tgt := 90) hx hb dX6_addMore_78 (by decide) (fun c_78 => ?_) (fun c_78 => ?_)
                · exact J7  (ar_s hk5 (by first | exact fun _ => bI_nz.mp c_87 | exact fun z => absurd z (lt_le' (by decide) c_78) | exact fun z => absurd ((nI_ltI (by omega) (by omega)).mp z) (by omega))) ls (lv_sub hl [0, 1, 2, 3, 4, 5, 6, 7, 8, 9, 10] rfl)
                · refine lv_aload_n hx hb dX6_addMore_81 rfl (lv_at hl 0 rfl) ?_
                  refine lv_iload hx hb dX6_addMore_82 (lv_at hl 8 rfl) ?_
                  refine ro_V (As := [.int y5]) (rest := []) (wc := []) (r := .int (bI (byB y5))) ⟨hx, hb, hml, hown, hts⟩ (c_X6_isByte l D T g m0 y5) (cwV 1 hts gX6_addMore_X6_isByte rfl rfl rfl (by decide +kernel) ⟨Nat.le_of_ble_eq_true rfl, Nat.le_of_ble_eq_true rfl⟩) (va_recv hK hP (ci := 3) (q0 := 0) rfl rfl) hP hK hG hS [] rfl ⟨Nat.zero_le _, Nat.zero_le _⟩ rfl hl.1 (Nat.le_of_ble_eq_true rfl) dX6_addMore_84 rfl ?_
                  refine lv_if_eq (tgt := 124) hx hb dX6_addMore_87 (by decide) (fun c_87 => ?_) (fun c_87 => ?_)
                  · have hr9a : false = arB m9 (gvN y0 y1 y2 y3 y4 y5 y6 y7) := (ar_n (k := 5) (by decide) (by first | exact lt_le (by decide) c_78 | exact nI_lt (by omega) (by omega)) (bI_z.mp c_87)).symm
                    refine lv_iconst (v := nI 0) hx hb dX6_addMore_124 (by decide +kernel) ?_
                    rw [show nI 0 = bI false from rfl]
                    exact J1 false (hr9a) ls (lv_sub hl [0, 1, 2, 3, 4, 5, 6, 7, 8, 9, 10] rfl)
                  · exact J7  (ar_s hk5 (by first | exact fun _ => bI_nz.mp c_87 | exact fun z => absurd z (lt_le' (by decide) c_78) | exact fun z => absurd ((nI_ltI (by omega) (by omega)).mp z) (by omega))) ls (lv_sub hl [0, 1, 2, 3, 4, 5, 6, 7, 8, 9, 10] rfl)
              refine lv_iload_n hx hb dX6_addMore_61 rfl (lv_at hl 2 rfl) ?_
              refine lv_iconst (v := (nI 5)) hx hb dX6_addMore_62 (by decide +kernel) ?_
              refine lv_icmp_lt (tgt := 75) hx hb dX6_addMore_63 (by decide) (fun c_63 => ?_) (fun c_63 => ?_)
              · exact J6  (ar_s hk4 (by first | exact fun _ => bI_nz.mp c_72 | exact fun z => absurd z (lt_le' (by decide) c_63) | exact fun z => absurd ((nI_ltI (by omega) (by omega)).mp z) (by omega))) ls (lv_sub hl [0, 1, 2, 3, 4, 5, 6, 7, 8, 9, 10] rfl)
              · refine lv_aload_n hx hb dX6_addMore_66 rfl (lv_at hl 0 rfl) ?_
                refine lv_iload hx hb dX6_addMore_67 (lv_at hl 7 rfl) ?_
                refine ro_V (As := [.int y4]) (rest := []) (wc := []) (r := .int (bI (byB y4))) ⟨hx, hb, hml, hown, hts⟩ (c_X6_isByte l D T g m0 y4) (cwV 1 hts gX6_addMore_X6_isByte rfl rfl rfl (by decide +kernel) ⟨Nat.le_of_ble_eq_true rfl, Nat.le_of_ble_eq_true rfl⟩) (va_recv hK hP (ci := 3) (q0 := 0) rfl rfl) hP hK hG hS [] rfl ⟨Nat.zero_le _, Nat.zero_le _⟩ rfl hl.1 (Nat.le_of_ble_eq_true rfl) dX6_addMore_69 rfl ?_
                refine lv_if_eq (tgt := 124) hx hb dX6_addMore_72 (by decide) (fun c_72 => ?_) (fun c_72 => ?_)
                · have hr9a : false = arB m9 (gvN y0 y1 y2 y3 y4 y5 y6 y7) := (ar_n (k := 4) (by decide) (by first | exact lt_le (by decide) c_63 | exact nI_lt (by omega) (by omega)) (bI_z.mp c_72)).symm
                  refine lv_iconst (v := nI 0) hx hb dX6_addMore_124 (by decide +kernel) ?_
                  rw [show nI 0 = bI false from rfl]
                  exact J1 false (hr9a) ls (lv_sub hl [0, 1, 2, 3, 4, 5, 6, 7, 8, 9, 10] rfl)
                · exact J6  (ar_s hk4 (by first | exact fun _ => bI_nz.mp c_72 | exact fun z => absurd z (lt_le' (by decide) c_63) | exact fun z => absurd ((nI_ltI (by omega) (by omega)).mp z) (by omega))) ls (lv_sub hl [0, 1, 2, 3, 4, 5, 6, 7, 8, 9, 10] rfl)
            refine lv_iload_n hx hb dX6_addMore_47 rfl (lv_at hl 2 rfl) ?_
            refine lv_iconst (v := (nI 4)) hx hb dX6_addMore_48 (by decide +kernel) ?_
            refine lv_icmp_lt (tgt := 61) hx hb dX6_addMore_49 (by decide) (fun c_49 => ?_) (fun c_49 => ?_)
            · exact J5  (ar_s hk3 (by first | exact fun _ => bI_nz.mp c_58 | exact fun z => absurd z (lt_le' (by decide) c_49) | exact fun z => absurd ((nI_ltI (by omega) (by omega)).mp z) (by omega))) ls (lv_sub hl [0, 1, 2, 3, 4, 5, 6, 7, 8, 9, 10] rfl)
            · refine lv_aload_n hx hb dX6_addMore_52 rfl (lv_at hl 0 rfl) ?_
              refine lv_iload hx hb dX6_addMore_53 (lv_at hl 6 rfl) ?_
              refine ro_V (As := [.int y3]) (rest := []) (wc := []) (r := .int (bI (byB y3))) ⟨hx, hb, hml, hown, hts⟩ (c_X6_isByte l D T g m0 y3) (cwV 1 hts gX6_addMore_X6_isByte rfl rfl rfl (by decide +kernel) ⟨Nat.le_of_ble_eq_true rfl, Nat.le_of_ble_eq_true rfl⟩) (va_recv hK hP (ci := 3) (q0 := 0) rfl rfl) hP hK hG hS [] rfl ⟨Nat.zero_le _, Nat.zero_le _⟩ rfl hl.1 (Nat.le_of_ble_eq_true rfl) dX6_addMore_55 rfl ?_
              refine lv_if_eq (tgt := 124) hx hb dX6_addMore_58 (by decide) (fun c_58 => ?_) (fun c_58 => ?_)
              · have hr9a : false = arB m9 (gvN y0 y1 y2 y3 y4 y5 y6 y7) := (ar_n (k := 3) (by decide) (by first | exact lt_le (by decide) c_49 | exact nI_lt (by omega) (by omega)) (bI_z.mp c_58)).symm
                refine lv_iconst (v := nI 0) hx hb dX6_addMore_124 (by decide +kernel) ?_
                rw [show nI 0 = bI false from rfl]
                exact J1 false (hr9a) ls (lv_sub hl [0, 1, 2, 3, 4, 5, 6, 7, 8, 9, 10] rfl)
              · exact J5  (ar_s hk3 (by first | exact fun _ => bI_nz.mp c_58 | exact fun z => absurd z (lt_le' (by decide) c_49) | exact fun z => absurd ((nI_ltI (by omega) (by omega)).mp z) (by omega))) ls (lv_sub hl [0, 1, 2, 3, 4, 5, 6, 7, 8, 9, 10] rfl)
          refine lv_iload_n hx hb dX6_addMore_33 rfl (lv_at hl 2 rfl) ?_
          refine lv_iconst (v := (nI 3)) hx hb dX6_addMore_34 (by decide +kernel) ?_
          refine lv_icmp_lt (tgt := 47) hx hb dX6_addMore_35 (by decide) (fun c_35 => ?_) (fun c_35 => ?_)
          · exact J4  (ar_s hk2 (by first | exact fun _ => bI_nz.mp c_44 | exact fun z => absurd z (lt_le' (by decide) c_35) | exact fun z => absurd ((nI_ltI (by omega) (by omega)).mp z) (by omega))) ls (lv_sub hl [0, 1, 2, 3, 4, 5, 6, 7, 8, 9, 10] rfl)
          · refine lv_aload_n hx hb dX6_addMore_38 rfl (lv_at hl 0 rfl) ?_
            refine lv_iload hx hb dX6_addMore_39 (lv_at hl 5 rfl) ?_
            refine ro_V (As := [.int y2]) (rest := []) (wc := []) (r := .int (bI (byB y2))) ⟨hx, hb, hml, hown, hts⟩ (c_X6_isByte l D T g m0 y2) (cwV 1 hts gX6_addMore_X6_isByte rfl rfl rfl (by decide +kernel) ⟨Nat.le_of_ble_eq_true rfl, Nat.le_of_ble_eq_true rfl⟩) (va_recv hK hP (ci := 3) (q0 := 0) rfl rfl) hP hK hG hS [] rfl ⟨Nat.zero_le _, Nat.zero_le _⟩ rfl hl.1 (Nat.le_of_ble_eq_true rfl) dX6_addMore_41 rfl ?_
            refine lv_if_eq (tgt := 124) hx hb dX6_addMore_44 (by decide) (fun c_44 => ?_) (fun c_44 => ?_)
            · have hr9a : false = arB m9 (gvN y0 y1 y2 y3 y4 y5 y6 y7) := (ar_n (k := 2) (by decide) (by first | exact lt_le (by decide) c_35 | exact nI_lt (by omega) (by omega)) (bI_z.mp c_44)).symm
              refine lv_iconst (v := nI 0) hx hb dX6_addMore_124 (by decide +kernel) ?_
              rw [show nI 0 = bI false from rfl]
              exact J1 false (hr9a) ls (lv_sub hl [0, 1, 2, 3, 4, 5, 6, 7, 8, 9, 10] rfl)
            · exact J4  (ar_s hk2 (by first | exact fun _ => bI_nz.mp c_44 | exact fun z => absurd z (lt_le' (by decide) c_35) | exact fun z => absurd ((nI_ltI (by omega) (by omega)).mp z) (by omega))) ls (lv_sub hl [0, 1, 2, 3, 4, 5, 6, 7, 8, 9, 10] rfl)
        refine lv_iload_n hx hb dX6_addMore_19 rfl (lv_at hl 2 rfl) ?_
        refine lv_iconst (v := (nI 2)) hx hb dX6_addMore_20 (by decide +kernel) ?_
        refine lv_icmp_lt (tgt := 33) hx hb dX6_addMore_21 (by decide) (fun c_21 => ?_) (fun c_21 => ?_)
        · exact J3  (ar_s hk1 (by first | exact fun _ => bI_nz.mp c_30 | exact fun z => absurd z (lt_le' (by decide) c_21) | exact fun z => absurd ((nI_ltI (by omega) (by omega)).mp z) (by omega))) ls (lv_sub hl [0, 1, 2, 3, 4, 5, 6, 7, 8, 9, 10] rfl)
        · refine lv_aload_n hx hb dX6_addMore_24 rfl (lv_at hl 0 rfl) ?_
          refine lv_iload hx hb dX6_addMore_25 (lv_at hl 4 rfl) ?_
          refine ro_V (As := [.int y1]) (rest := []) (wc := []) (r := .int (bI (byB y1))) ⟨hx, hb, hml, hown, hts⟩ (c_X6_isByte l D T g m0 y1) (cwV 1 hts gX6_addMore_X6_isByte rfl rfl rfl (by decide +kernel) ⟨Nat.le_of_ble_eq_true rfl, Nat.le_of_ble_eq_true rfl⟩) (va_recv hK hP (ci := 3) (q0 := 0) rfl rfl) hP hK hG hS [] rfl ⟨Nat.zero_le _, Nat.zero_le _⟩ rfl hl.1 (Nat.le_of_ble_eq_true rfl) dX6_addMore_27 rfl ?_
          refine lv_if_eq (tgt := 124) hx hb dX6_addMore_30 (by decide) (fun c_30 => ?_) (fun c_30 => ?_)
          · have hr9a : false = arB m9 (gvN y0 y1 y2 y3 y4 y5 y6 y7) := (ar_n (k := 1) (by decide) (by first | exact lt_le (by decide) c_21 | exact nI_lt (by omega) (by omega)) (bI_z.mp c_30)).symm
            refine lv_iconst (v := nI 0) hx hb dX6_addMore_124 (by decide +kernel) ?_
            rw [show nI 0 = bI false from rfl]
            exact J1 false (hr9a) ls (lv_sub hl [0, 1, 2, 3, 4, 5, 6, 7, 8, 9, 10] rfl)
          · exact J3  (ar_s hk1 (by first | exact fun _ => bI_nz.mp c_30 | exact fun z => absurd z (lt_le' (by decide) c_21) | exact fun z => absurd ((nI_ltI (by omega) (by omega)).mp z) (by omega))) ls (lv_sub hl [0, 1, 2, 3, 4, 5, 6, 7, 8, 9, 10] rfl)
set_option maxHeartbeats 4000000 in
set_option maxRecDepth 100000 in
theorem m_addMore_2 (l : Launch) (D : va_G) (T : Nat → ClassId) (g : Nat → Nat) (sz : Nat) (m0 : Nat) (mb : Nat) (ml : Nat) (mm : Nat) (mk : Nat) (many : Nat) (th : Int32) (fb : Nat → Int32) (fl : Nat → Int32) (fm : Nat → Int32) (fk : Nat → Int32) (N : Nat → Nat) (Bw : Nat → Nat → Nat) (hMR : MR fl fb N Bw) (i : Nat) (hi : i < 6) (m9 : Int32) (y0 : Int32) (y1 : Int32) (y2 : Int32) (y3 : Int32) (y4 : Int32) (y5 : Int32) (y6 : Int32) (y7 : Int32) (hm : m9 < nI 1 ∨ ¬ m9 ≤ nI 8) : MU l yX6_addMore wsX6_addMore ({ frames := 62, cells := 0, slots := 0, locals := 3100 } : Room) D T g [.ref m0, .int (nI i), .int m9, .int y0, .int y1, .int y2, .int y3, .int y4, .int y5, .int y6, .int y7] [(m0, .inr (3, [.ref mb, .ref ml, .ref mm, .int (nI many), .int th, .ref mk])), (mb, .inl (T 0, 1920, .inl fb)), (ml, .inl (T 0, 6, .inl fl)), (mm, .inl (T 0, 600, .inl fm)), (mk, .inl (T 0, 320, .inl fk))] sz (fun u : Nat × Int32 × (Nat → Int32) × (Nat → Int32) × (Nat → Int32) × (Nat → Int32) => some (.int (nI 0))) (fun u : Nat × Int32 × (Nat → Int32) × (Nat → Int32) × (Nat → Int32) × (Nat → Int32) => u.2.1 = nI 2 ∧ MR u.2.2.2.1 u.2.2.1 (N) (Bw)) (fun u : Nat × Int32 × (Nat → Int32) × (Nat → Int32) × (Nat → Int32) × (Nat → Int32) => [(m0, .inr (3, [.ref mb, .ref ml, .ref mm, .int (nI u.1), .int u.2.1, .ref mk])), (mb, .inl (T 0, 1920, .inl u.2.2.1)), (ml, .inl (T 0, 6, .inl u.2.2.2.1)), (mm, .inl (T 0, 600, .inl u.2.2.2.2.1)), (mk, .inl (T 0, 320, .inl u.2.2.2.2.2))]) 0 0 := by
  refine Met.ofW (cc := cX6_addMore) (maxL := 13) (ret := (some .int)) (by decide) rfl ?_
  intro p e s m args below meth c s₁ B hml hv
  obtain ⟨rfl, hsz, hP, hK, hD0, hG⟩ := hv
  have hx := B.exec
  have hb := B.bytes
  have hr := B.returns
  have hts := atoms_spec (ws := wsX6_addMore) B.pre
  have hown : s.vm.findClass RX6 = some m.cls := findClass_of_methodNamed B.named
  have hlocks := B.notSynchronized
  subst hsz
  have hD := hD0.self (sz := s.heap.size)
  generalize hAe : va_A [(m0, .inr (3, [.ref mb, .ref ml, .ref mm, .int (nI many), .int th, .ref mk])), (mb, .inl (T 0, 1920, .inl fb)), (ml, .inl (T 0, 6, .inl fl)), (mm, .inl (T 0, 600, .inl fm)), (mk, .inl (T 0, 320, .inl fk))] s.heap.size = A at hD hG ⊢
  have hA : ∀ q : Nat, s.heap.size ≤ q → A q := fun q h => by rw [← hAe]; exact Or.inr h
  have hS : va_S A s.heap s.heap [] := va_S.rf
  have hP : va_P D cls [(m0, .inr (3, [.ref mb, .ref ml, .ref mm, .int (nI many), .int th, .ref mk])), (mb, .inl (T 0, 1920, .inl fb)), (ml, .inl (T 0, 6, .inl fl)), (mm, .inl (T 0, 600, .inl fm)), (mk, .inl (T 0, 320, .inl fk))] s.heap := hP
  have hl := lv_entry ([.ref m0, .int (nI i), .int m9, .int y0, .int y1, .int y2, .int y3, .int y4, .int y5, .int y6, .int y7]) (n := 13) (Nat.le_of_ble_eq_true rfl)
  rw [lg_entry_eq]
  generalize (lg_sl ([.ref m0, .int (nI i), .int m9, .int y0, .int y1, .int y2, .int y3, .int y4, .int y5, .int y6, .int y7]) ++ List.replicate (13 - (lg_sl ([.ref m0, .int (nI i), .int m9, .int y0, .int y1, .int y2, .int y3, .int y4, .int y5, .int y6, .int y7])).length) Slot.unset).toArray = ls at hl ⊢
  have hl : lv_has ls 13 [(0, .ref m0), (1, .int (nI i)), (2, .int m9), (3, .int y0), (4, .int y1), (5, .int y2), (6, .int y3), (7, .int y4), (8, .int y5), (9, .int y6), (10, .int y7)] := hl
  have J1 : ∀ (r9 : Bool), (r9 = arB m9 (gvN y0 y1 y2 y3 y4 y5 y6 y7)) → ∀ ls : Array Slot, lv_has ls 13 [(0, .ref m0), (1, .int (nI i)), (2, .int m9), (3, .int y0), (4, .int y1), (5, .int y2), (6, .int y3), (7, .int y4), (8, .int y5), (9, .int y6), (10, .int y7)] → W p l e (headSpec wsX6_addMore ({ frames := 62, cells := 0, slots := 0, locals := 3100 } : Room)).room s m ([.ref m0, .int (nI i), .int m9, .int y0, .int y1, .int y2, .int y3, .int y4, .int y5, .int y6, .int y7] : List Value).toArray below meth c s.heap [] 0 0 (MQ below (QM D T A (fun u : Nat × Int32 × (Nat → Int32) × (Nat → Int32) × (Nat → Int32) × (Nat → Int32) => some (.int (nI 0))) (fun u : Nat × Int32 × (Nat → Int32) × (Nat → Int32) × (Nat → Int32) × (Nat → Int32) => u.2.1 = nI 2 ∧ MR u.2.2.2.1 u.2.2.1 (N) (Bw)) (fun u : Nat × Int32 × (Nat → Int32) × (Nat → Int32) × (Nat → Int32) × (Nat → Int32) => [(m0, .inr (3, [.ref mb, .ref ml, .ref mm, .int (nI u.1), .int u.2.1, .ref mk])), (mb, .inl (T 0, 1920, .inl u.2.2.1)), (ml, .inl (T 0, 6, .inl u.2.2.2.1)), (mm, .inl (T 0, 600, .inl u.2.2.2.2.1)), (mk, .inl (T 0, 320, .inl u.2.2.2.2.2))])) ([.ref m0, .int (nI i), .int m9, .int y0, .int y1, .int y2, .int y3, .int y4, .int y5, .int y6, .int y7] : List Value).toArray s 0 0 A) (F0 m 125 ls [.int (bI r9)]) := by
    intro r9 hr9 ls hl
    refine lv_istore (lv' := [(11, .int (bI r9)), (0, .ref m0), (1, .int (nI i)), (2, .int m9), (3, .int y0), (4, .int y1), (5, .int y2), (6, .int y3), (7, .int y4), (8, .int y5), (9, .int y6), (10, .int y7)]) hx hb dX6_addMore_125 hl (by decide) rfl (fun ls hl => ?_)
    have hr8 : r9 = false := hr9.trans (ar_m hm)
    rw [hr8] at hl
    refine lv_aload_n hx hb dX6_addMore_127 rfl (lv_at hl 1 rfl) ?_
    refine lv_aload_n hx hb dX6_addMore_128 rfl (lv_at hl 1 rfl) ?_
    refine lv_iload_n hx hb dX6_addMore_129 rfl (lv_at hl 2 rfl) ?_
    refine ro_V (As := [.int (nI i)]) (rest := [.ref m0]) (wc := []) (r := .int (nI 1)) ⟨hx, hb, hml, hown, hts⟩ (c_X6_isRow_y l D T g m0 i (by omega)) (cwV 1 hts gX6_addMore_X6_isRow rfl rfl rfl (by decide +kernel) ⟨Nat.le_of_ble_eq_true rfl, Nat.le_of_ble_eq_true rfl⟩) (va_recv hK hP (ci := 3) (q0 := 0) rfl rfl) hP hK hG hS [] rfl ⟨Nat.zero_le _, Nat.zero_le _⟩ rfl hl.1 (Nat.le_of_ble_eq_true rfl) dX6_addMore_130 rfl ?_
    refine ln_if_ne_t (tgt := 140) hx hb (by omega) (by decide) dX6_addMore_133 (by decide) ?_
    refine lv_iload hx hb dX6_addMore_140 (lv_at hl 0 rfl) ?_
    refine lv_if_ne (tgt := 149) hx hb dX6_addMore_142 (by decide) (fun q9 => absurd (rfl) q9) (fun _ => ?_)
    refine lv_iconst (v := (nI 2)) hx hb dX6_addMore_145 (by decide +kernel) ?_
    refine lv_goto (tgt := 168) hx hb dX6_addMore_146 (by decide) ?_
    refine mu_V (As := [.int (nI 2)]) (rest := []) (wc := [(m0, .inr (3, [.ref mb, .ref ml, .ref mm, .int (nI many), .int th, .ref mk]))]) (wr := [(mb, .inl (T 0, 1920, .inl fb)), (ml, .inl (T 0, 6, .inl fl)), (mm, .inl (T 0, 600, .inl fm)), (mk, .inl (T 0, 320, .inl fk))]) ⟨hx, hb, hml, hown, hts⟩ (c_X6_isWrong_p l D T g s.heap.size m0 mb ml mm mk many th 2 (by omega)) (cwV 1 hts gX6_addMore_X6_isWrong rfl rfl rfl (by decide +kernel) ⟨Nat.le_of_ble_eq_true rfl, Nat.le_of_ble_eq_true rfl⟩) (va_recv hK hP (ci := 3) (q0 := 0) rfl rfl) hP hD hK hG hS hA [0] [1, 2, 3, 4] rfl (by decide) rfl (by decide) (by decide) ⟨Nat.le_of_ble_eq_true rfl, Nat.le_of_ble_eq_true rfl⟩ rfl hl.1 (Nat.le_of_ble_eq_true rfl) dX6_addMore_168 rfl (fun u H locs hq2 hP hD hS => ?_)
    have hP : va_P D cls [(mb, .inl (T 0, 1920, .inl fb)), (ml, .inl (T 0, 6, .inl fl)), (mm, .inl (T 0, 600, .inl fm)), (mk, .inl (T 0, 320, .inl fk)), (m0, .inr (3, [.ref mb, .ref ml, .ref mm, .int (nI many), .int (nI 2), .ref mk]))] H := hP
    have hD : va_D A [(mb, .inl (T 0, 1920, .inl fb)), (ml, .inl (T 0, 6, .inl fl)), (mm, .inl (T 0, 600, .inl fm)), (mk, .inl (T 0, 320, .inl fk)), (m0, .inr (3, [.ref mb, .ref ml, .ref mm, .int (nI many), .int (nI 2), .ref mk]))] := hD
    refine W.eq (g2 := F0 m 171 ls [.int (nI 1)]) rfl ?_
    refine ln_if_eq_f (tgt := 176) hx hb (by omega) (by decide) dX6_addMore_171 (by decide) ?_
    refine lv_iconst (v := (nI 0)) hx hb dX6_addMore_174 (by decide +kernel) ?_
    have hP9 := hP.sub (ws' := [(m0, .inr (3, [.ref mb, .ref ml, .ref mm, .int (nI many), .int (nI 2), .ref mk])), (mb, .inl (T 0, 1920, .inl fb)), (ml, .inl (T 0, 6, .inl fl)), (mm, .inl (T 0, 600, .inl fm)), (mk, .inl (T 0, 320, .inl fk))]) [4, 0, 1, 2, 3] rfl
    have hD9 := hD.sub (ws' := [(m0, .inr (3, [.ref mb, .ref ml, .ref mm, .int (nI many), .int (nI 2), .ref mk])), (mb, .inl (T 0, 1920, .inl fb)), (ml, .inl (T 0, 6, .inl fl)), (mm, .inl (T 0, 600, .inl fm)), (mk, .inl (T 0, 320, .inl fk))]) [4, 0, 1, 2, 3] (by decide) rfl
    exact W.iret (v := (nI 0)) hx hb hr (fun t ht hW => ⟨⟨(many, (nI 2), fb, fl, fm, fk), rfl, show (nI 2) = nI 2 ∧ MR fl fb (N) (Bw) from ⟨rfl, hMR⟩, (by rw [ht]; exact hP9), va_K.moved hW.alike hK, hD9⟩, hS.F ht⟩) hS.2.2 dX6_addMore_175
  refine lv_iconst (v := (nI 1)) hx hb dX6_addMore_0 (by decide +kernel) ?_
  refine lv_iload_n hx hb dX6_addMore_1 rfl (lv_at hl 2 rfl) ?_
  refine lv_icmp_gt (tgt := 124) hx hb dX6_addMore_2 (by decide) (fun c_2 => ?_) (fun c_2 => ?_)
  · have hr9a : false = arB m9 (gvN y0 y1 y2 y3 y4 y5 y6 y7) := (ar_m (Or.inl (by first | exact c_2 | exact nI_lt (by omega) (by omega)))).symm
    refine lv_iconst (v := nI 0) hx hb dX6_addMore_124 (by decide +kernel) ?_
    rw [show nI 0 = bI false from rfl]
    exact J1 false (hr9a) ls (lv_sub hl [0, 1, 2, 3, 4, 5, 6, 7, 8, 9, 10] rfl)
  · refine lv_iload_n hx hb dX6_addMore_5 rfl (lv_at hl 2 rfl) ?_
    refine lv_bipush (v := (nI 8)) hx hb dX6_addMore_6 (by decide +kernel) ?_
    refine lv_icmp_gt (tgt := 124) hx hb dX6_addMore_8 (by decide) (fun c_8 => ?_) (fun c_8 => ?_)
    · have hr9a : false = arB m9 (gvN y0 y1 y2 y3 y4 y5 y6 y7) := (ar_m (Or.inr (by first | exact Int32.not_le.mpr c_8 | exact nI_ge (by omega) (by omega)))).symm
      refine lv_iconst (v := nI 0) hx hb dX6_addMore_124 (by decide +kernel) ?_
      rw [show nI 0 = bI false from rfl]
      exact J1 false (hr9a) ls (lv_sub hl [0, 1, 2, 3, 4, 5, 6, 7, 8, 9, 10] rfl)
    · have hge : nI 1 ≤ m9 := Int32.not_lt.mp c_2
      refine lv_aload_n hx hb dX6_addMore_11 rfl (lv_at hl 0 rfl) ?_
      refine lv_iload_n hx hb dX6_addMore_12 rfl (lv_at hl 3 rfl) ?_
      refine ro_V (As := [.int y0]) (rest := []) (wc := []) (r := .int (bI (byB y0))) ⟨hx, hb, hml, hown, hts⟩ (c_X6_isByte l D T g m0 y0) (cwV 1 hts gX6_addMore_X6_isByte rfl rfl rfl (by decide +kernel) ⟨Nat.le_of_ble_eq_true rfl, Nat.le_of_ble_eq_true rfl⟩) (va_recv hK hP (ci := 3) (q0 := 0) rfl rfl) hP hK hG hS [] rfl ⟨Nat.zero_le _, Nat.zero_le _⟩ rfl hl.1 (Nat.le_of_ble_eq_true rfl) dX6_addMore_13 rfl ?_
      refine lv_if_eq (tgt := 124) hx hb dX6_addMore_16 (by decide) (fun c_16 => ?_) (fun c_16 => ?_)
      · have hr9a : false = arB m9 (gvN y0 y1 y2 y3 y4 y5 y6 y7) := (ar_n (k := 0) (by decide) (lt_le (by decide) (fun z => Int32.not_le.mpr z hge)) (bI_z.mp c_16)).symm
        refine lv_iconst (v := nI 0) hx hb dX6_addMore_124 (by decide +kernel) ?_
        rw [show nI 0 = bI false from rfl]
        exact J1 false (hr9a) ls (lv_sub hl [0, 1, 2, 3, 4, 5, 6, 7, 8, 9, 10] rfl)
      · have hk1 : ∀ j, j < 1 → nI j < m9 → byB (gvN y0 y1 y2 y3 y4 y5 y6 y7 j) = true := fun j hj _ => by have e : j = 0 := (by omega); subst e; exact bI_nz.mp c_16
        have J3 : (∀ j, j < 2 → nI j < m9 → byB (gvN y0 y1 y2 y3 y4 y5 y6 y7 j) = true) → ∀ ls : Array Slot, lv_has ls 13 [(0, .ref m0), (1, .int (nI i)), (2, .int m9), (3, .int y0), (4, .int y1), (5, .int y2), (6, .int y3), (7, .int y4), (8, .int y5), (9, .int y6), (10, .int y7)] → W p l e (headSpec wsX6_addMore ({ frames := 62, cells := 0, slots := 0, locals := 3100 } : Room)).room s m ([.ref m0, .int (nI i), .int m9, .int y0, .int y1, .int y2, .int y3, .int y4, .int y5, .int y6, .int y7] : List Value).toArray below meth c s.heap [] 0 0 (MQ below (QM D T A (fun u : Nat × Int32 × (Nat → Int32) × (Nat → Int32) × (Nat → Int32) × (Nat → Int32) => some (.int (nI 0))) (fun u : Nat × Int32 × (Nat → Int32) × (Nat → Int32) × (Nat → Int32) × (Nat → Int32) => u.2.1 = nI 2 ∧ MR u.2.2.2.1 u.2.2.1 (N) (Bw)) (fun u : Nat × Int32 × (Nat → Int32) × (Nat → Int32) × (Nat → Int32) × (Nat → Int32) => [(m0, .inr (3, [.ref mb, .ref ml, .ref mm, .int (nI u.1), .int u.2.1, .ref mk])), (mb, .inl (T 0, 1920, .inl u.2.2.1)), (ml, .inl (T 0, 6, .inl u.2.2.2.1)), (mm, .inl (T 0, 600, .inl u.2.2.2.2.1)), (mk, .inl (T 0, 320, .inl u.2.2.2.2.2))])) ([.ref m0, .int (nI i), .int m9, .int y0, .int y1, .int y2, .int y3, .int y4, .int y5, .int y6, .int y7] : List Value).toArray s 0 0 A) (F0 m 33 ls []) := by
          intro  hk2 ls hl
          have J4 : (∀ j, j < 3 → nI j < m9 → byB (gvN y0 y1 y2 y3 y4 y5 y6 y7 j) = true) → ∀ ls : Array Slot, lv_has ls 13 [(0, .ref m0), (1, .int (nI i)), (2, .int m9), (3, .int y0), (4, .int y1), (5, .int y2), (6, .int y3), (7, .int y4), (8, .int y5), (9, .int y6), (10, .int y7)] → W p l e (headSpec wsX6_addMore ({ frames := 62, cells := 0, slots := 0, locals := 3100 } : Room)).room s m ([.ref m0, .int (nI i), .int m9, .int y0, .int y1, .int y2, .int y3, .int y4, .int y5, .int y6, .int y7] : List Value).toArray below meth c s.heap [] 0 0 (MQ below (QM D T A (fun u : Nat × Int32 × (Nat → Int32) × (Nat → Int32) × (Nat → Int32) × (Nat → Int32) => some (.int (nI 0))) (fun u : Nat × Int32 × (Nat → Int32) × (Nat → Int32) × (Nat → Int32) × (Nat → Int32) => u.2.1 = nI 2 ∧ MR u.2.2.2.1 u.2.2.1 (N) (Bw)) (fun u : Nat × Int32 × (Nat → Int32) × (Nat → Int32) × (Nat → Int32) × (Nat → Int32) => [(m0, .inr (3, [.ref mb, .ref ml, .ref mm, .int (nI u.1), .int u.2.1, .ref mk])), (mb, .inl (T 0, 1920, .inl u.2.2.1)), (ml, .inl (T 0, 6, .inl u.2.2.2.1)), (mm, .inl (T 0, 600, .inl u.2.2.2.2.1)), (mk, .inl (T 0, 320, .inl u.2.2.2.2.2))])) ([.ref m0, .int (nI i), .int m9, .int y0, .int y1, .int y2, .int y3, .int y4, .int y5, .int y6, .int y7] : List Value).toArray s 0 0 A) (F0 m 47 ls []) := by
            intro  hk3 ls hl
            have J5 : (∀ j, j < 4 → nI j < m9 → byB (gvN y0 y1 y2 y3 y4 y5 y6 y7 j) = true) → ∀ ls : Array Slot, lv_has ls 13 [(0, .ref m0), (1, .int (nI i)), (2, .int m9), (3, .int y0), (4, .int y1), (5, .int y2), (6, .int y3), (7, .int y4), (8, .int y5), (9, .int y6), (10, .int y7)] → W p l e (headSpec wsX6_addMore ({ frames := 62, cells := 0, slots := 0, locals := 3100 } : Room)).room s m ([.ref m0, .int (nI i), .int m9, .int y0, .int y1, .int y2, .int y3, .int y4, .int y5, .int y6, .int y7] : List Value).toArray below meth c s.heap [] 0 0 (MQ below (QM D T A (fun u : Nat × Int32 × (Nat → Int32) × (Nat → Int32) × (Nat → Int32) × (Nat → Int32) => some (.int (nI 0))) (fun u : Nat × Int32 × (Nat → Int32) × (Nat → Int32) × (Nat → Int32) × (Nat → Int32) => u.2.1 = nI 2 ∧ MR u.2.2.2.1 u.2.2.1 (N) (Bw)) (fun u : Nat × Int32 × (Nat → Int32) × (Nat → Int32) × (Nat → Int32) × (Nat → Int32) => [(m0, .inr (3, [.ref mb, .ref ml, .ref mm, .int (nI u.1), .int u.2.1, .ref mk])), (mb, .inl (T 0, 1920, .inl u.2.2.1)), (ml, .inl (T 0, 6, .inl u.2.2.2.1)), (mm, .inl (T 0, 600, .inl u.2.2.2.2.1)), (mk, .inl (T 0, 320, .inl u.2.2.2.2.2))])) ([.ref m0, .int (nI i), .int m9, .int y0, .int y1, .int y2, .int y3, .int y4, .int y5, .int y6, .int y7] : List Value).toArray s 0 0 A) (F0 m 61 ls []) := by
              intro  hk4 ls hl
              have J6 : (∀ j, j < 5 → nI j < m9 → byB (gvN y0 y1 y2 y3 y4 y5 y6 y7 j) = true) → ∀ ls : Array Slot, lv_has ls 13 [(0, .ref m0), (1, .int (nI i)), (2, .int m9), (3, .int y0), (4, .int y1), (5, .int y2), (6, .int y3), (7, .int y4), (8, .int y5), (9, .int y6), (10, .int y7)] → W p l e (headSpec wsX6_addMore ({ frames := 62, cells := 0, slots := 0, locals := 3100 } : Room)).room s m ([.ref m0, .int (nI i), .int m9, .int y0, .int y1, .int y2, .int y3, .int y4, .int y5, .int y6, .int y7] : List Value).toArray below meth c s.heap [] 0 0 (MQ below (QM D T A (fun u : Nat × Int32 × (Nat → Int32) × (Nat → Int32) × (Nat → Int32) × (Nat → Int32) => some (.int (nI 0))) (fun u : Nat × Int32 × (Nat → Int32) × (Nat → Int32) × (Nat → Int32) × (Nat → Int32) => u.2.1 = nI 2 ∧ MR u.2.2.2.1 u.2.2.1 (N) (Bw)) (fun u : Nat × Int32 × (Nat → Int32) × (Nat → Int32) × (Nat → Int32) × (Nat → Int32) => [(m0, .inr (3, [.ref mb, .ref ml, .ref mm, .int (nI u.1), .int u.2.1, .ref mk])), (mb, .inl (T 0, 1920, .inl u.2.2.1)), (ml, .inl (T 0, 6, .inl u.2.2.2.1)), (mm, .inl (T 0, 600, .inl u.2.2.2.2.1)), (mk, .inl (T 0, 320, .inl u.2.2.2.2.2))])) ([.ref m0, .int (nI i), .int m9, .int y0, .int y1, .int y2, .int y3, .int y4, .int y5, .int y6, .int y7] : List Value).toArray s 0 0 A) (F0 m 75 ls []) := by
                intro  hk5 ls hl
                have J7 : (∀ j, j < 6 → nI j < m9 → byB (gvN y0 y1 y2 y3 y4 y5 y6 y7 j) = true) → ∀ ls : Array Slot, lv_has ls 13 [(0, .ref m0), (1, .int (nI i)), (2, .int m9), (3, .int y0), (4, .int y1), (5, .int y2), (6, .int y3), (7, .int y4), (8, .int y5), (9, .int y6), (10, .int y7)] → W p l e (headSpec wsX6_addMore ({ frames := 62, cells := 0, slots := 0, locals := 3100 } : Room)).room s m ([.ref m0, .int (nI i), .int m9, .int y0, .int y1, .int y2, .int y3, .int y4, .int y5, .int y6, .int y7] : List Value).toArray below meth c s.heap [] 0 0 (MQ below (QM D T A (fun u : Nat × Int32 × (Nat → Int32) × (Nat → Int32) × (Nat → Int32) × (Nat → Int32) => some (.int (nI 0))) (fun u : Nat × Int32 × (Nat → Int32) × (Nat → Int32) × (Nat → Int32) × (Nat → Int32) => u.2.1 = nI 2 ∧ MR u.2.2.2.1 u.2.2.1 (N) (Bw)) (fun u : Nat × Int32 × (Nat → Int32) × (Nat → Int32) × (Nat → Int32) × (Nat → Int32) => [(m0, .inr (3, [.ref mb, .ref ml, .ref mm, .int (nI u.1), .int u.2.1, .ref mk])), (mb, .inl (T 0, 1920, .inl u.2.2.1)), (ml, .inl (T 0, 6, .inl u.2.2.2.1)), (mm, .inl (T 0, 600, .inl u.2.2.2.2.1)), (mk, .inl (T 0, 320, .inl u.2.2.2.2.2))])) ([.ref m0, .int (nI i), .int m9, .int y0, .int y1, .int y2, .int y3, .int y4, .int y5, .int y6, .int y7] : List Value).toArray s 0 0 A) (F0 m 90 ls []) := by
                  intro  hk6 ls hl
                  have J8 : (∀ j, j < 7 → nI j < m9 → byB (gvN y0 y1 y2 y3 y4 y5 y6 y7 j) = true) → ∀ ls : Array Slot, lv_has ls 13 [(0, .ref m0), (1, .int (nI i)), (2, .int m9), (3, .int y0), (4, .int y1), (5, .int y2), (6, .int y3), (7, .int y4), (8, .int y5), (9, .int y6), (10, .int y7)] → W p l e (headSpec wsX6_addMore ({ frames := 62, cells := 0, slots := 0, locals := 3100 } : Room)).room s m ([.ref m0, .int (nI i), .int m9, .int y0, .int y1, .int y2, .int y3, .int y4, .int y5, .int y6, .int y7] : List Value).toArray below meth c s.heap [] 0 0 (MQ below (QM D T A (fun u : Nat × Int32 × (Nat → Int32) × (Nat → Int32) × (Nat → Int32) × (Nat → Int32) => some (.int (nI 0))) (fun u : Nat × Int32 × (Nat → Int32) × (Nat → Int32) × (Nat → Int32) × (Nat → Int32) => u.2.1 = nI 2 ∧ MR u.2.2.2.1 u.2.2.1 (N) (Bw)) (fun u : Nat × Int32 × (Nat → Int32) × (Nat → Int32) × (Nat → Int32) × (Nat → Int32) => [(m0, .inr (3, [.ref mb, .ref ml, .ref mm, .int (nI u.1), .int u.2.1, .ref mk])), (mb, .inl (T 0, 1920, .inl u.2.2.1)), (ml, .inl (T 0, 6, .inl u.2.2.2.1)), (mm, .inl (T 0, 600, .inl u.2.2.2.2.1)), (mk, .inl (T 0, 320, .inl u.2.2.2.2.2))])) ([.ref m0, .int (nI i), .int m9, .int y0, .int y1, .int y2, .int y3, .int y4, .int y5, .int y6, .int y7] : List Value).toArray s 0 0 A) (F0 m 105 ls []) := by
                    intro  hk7 ls hl
                    have J9 : (∀ j, j < 8 → nI j < m9 → byB (gvN y0 y1 y2 y3 y4 y5 y6 y7 j) = true) → ∀ ls : Array Slot, lv_has ls 13 [(0, .ref m0), (1, .int (nI i)), (2, .int m9), (3, .int y0), (4, .int y1), (5, .int y2), (6, .int y3), (7, .int y4), (8, .int y5), (9, .int y6), (10, .int y7)] → W p l e (headSpec wsX6_addMore ({ frames := 62, cells := 0, slots := 0, locals := 3100 } : Room)).room s m ([.ref m0, .int (nI i), .int m9, .int y0, .int y1, .int y2, .int y3, .int y4, .int y5, .int y6, .int y7] : List Value).toArray below meth c s.heap [] 0 0 (MQ below (QM D T A (fun u : Nat × Int32 × (Nat → Int32) × (Nat → Int32) × (Nat → Int32) × (Nat → Int32) => some (.int (nI 0))) (fun u : Nat × Int32 × (Nat → Int32) × (Nat → Int32) × (Nat → Int32) × (Nat → Int32) => u.2.1 = nI 2 ∧ MR u.2.2.2.1 u.2.2.1 (N) (Bw)) (fun u : Nat × Int32 × (Nat → Int32) × (Nat → Int32) × (Nat → Int32) × (Nat → Int32) => [(m0, .inr (3, [.ref mb, .ref ml, .ref mm, .int (nI u.1), .int u.2.1, .ref mk])), (mb, .inl (T 0, 1920, .inl u.2.2.1)), (ml, .inl (T 0, 6, .inl u.2.2.2.1)), (mm, .inl (T 0, 600, .inl u.2.2.2.2.1)), (mk, .inl (T 0, 320, .inl u.2.2.2.2.2))])) ([.ref m0, .int (nI i), .int m9, .int y0, .int y1, .int y2, .int y3, .int y4, .int y5, .int y6, .int y7] : List Value).toArray s 0 0 A) (F0 m 120 ls []) := by
                      intro  hk8 ls hl
                      have hr9a : true = arB m9 (gvN y0 y1 y2 y3 y4 y5 y6 y7) := (@decide_eq_true _ (Classical.propDecidable _) ⟨hge, Int32.not_lt.mp c_8, hk8⟩).symm
                      refine lv_iconst (v := (nI 1)) hx hb dX6_addMore_120 (by decide +kernel) ?_
                      refine lv_goto (tgt := 125) hx hb dX6_addMore_121 (by decide) ?_
                      rw [show nI 1 = bI true from rfl]
                      exact J1 true (hr9a) ls (lv_sub hl [0, 1, 2, 3, 4, 5, 6, 7, 8, 9, 10] rfl)
                    refine lv_iload_n hx hb dX6_addMore_105 rfl (lv_at hl 2 rfl) ?_
                    refine lv_bipush (v := (nI 8)) hx hb dX6_addMore_106 (by decide +kernel) ?_
                    refine lv_icmp_lt (tgt := 120) hx hb dX6_addMore_108 (by decide) (fun c_108 => ?_) (fun c_108 => ?_)
                    · exact J9  (ar_s hk7 (by first | exact fun _ => bI_nz.mp c_117 | exact fun z => absurd z (lt_le' (by decide) c_108) | exact fun z => absurd ((nI_ltI (by omega) (by omega)).mp z) (by omega))) ls (lv_sub hl [0, 1, 2, 3, 4, 5, 6, 7, 8, 9, 10] rfl)
                    · refine lv_aload_n hx hb dX6_addMore_111 rfl (lv_at hl 0 rfl) ?_
                      refine lv_iload hx hb dX6_addMore_112 (lv_at hl 10 rfl) ?_
                      refine ro_V (As := [.int y7]) (rest := []) (wc := []) (r := .int (bI (byB y7))) ⟨hx, hb, hml, hown, hts⟩ (c_X6_isByte l D T g m0 y7) (cwV 1 hts gX6_addMore_X6_isByte rfl rfl rfl (by decide +kernel) ⟨Nat.le_of_ble_eq_true rfl, Nat.le_of_ble_eq_true rfl⟩) (va_recv hK hP (ci := 3) (q0 := 0) rfl rfl) hP hK hG hS [] rfl ⟨Nat.zero_le _, Nat.zero_le _⟩ rfl hl.1 (Nat.le_of_ble_eq_true rfl) dX6_addMore_114 rfl ?_
                      refine lv_if_eq (tgt := 124) hx hb dX6_addMore_117 (by decide) (fun c_117 => ?_) (fun c_117 => ?_)
                      · have hr9a : false = arB m9 (gvN y0 y1 y2 y3 y4 y5 y6 y7) := (ar_n (k := 7) (by decide) (by first | exact lt_le (by decide) c_108 | exact nI_lt (by omega) (by omega)) (bI_z.mp c_117)).symm
                        refine lv_iconst (v := nI 0) hx hb dX6_addMore_124 (by decide +kernel) ?_
                        rw [show nI 0 = bI false from rfl]
                        exact J1 false (hr9a) ls (lv_sub hl [0, 1, 2, 3, 4, 5, 6, 7, 8, 9, 10] rfl)
                      · exact J9  (ar_s hk7 (by first | exact fun _ => bI_nz.mp c_117 | exact fun z => absurd z (lt_le' (by decide) c_108) | exact fun z => absurd ((nI_ltI (by omega) (by omega)).mp z) (by omega))) ls (lv_sub hl [0, 1, 2, 3, 4, 5, 6, 7, 8, 9, 10] rfl)
                  refine lv_iload_n hx hb dX6_addMore_90 rfl (lv_at hl 2 rfl) ?_
                  refine lv_bipush (v := (nI 7)) hx hb dX6_addMore_91 (by decide +kernel) ?_
                  refine lv_icmp_lt (tgt := 105) hx hb dX6_addMore_93 (by decide) (fun c_93 => ?_) (fun c_93 => ?_)
                  · exact J8  (ar_s hk6 (by first | exact fun _ => bI_nz.mp c_102 | exact fun z => absurd z (lt_le' (by decide) c_93) | exact fun z => absurd ((nI_ltI (by omega) (by omega)).mp z) (by omega))) ls (lv_sub hl [0, 1, 2, 3, 4, 5, 6, 7, 8, 9, 10] rfl)
                  · refine lv_aload_n hx hb dX6_addMore_96 rfl (lv_at hl 0 rfl) ?_
                    refine lv_iload hx hb dX6_addMore_97 (lv_at hl 9 rfl) ?_
                    refine ro_V (As := [.int y6]) (rest := []) (wc := []) (r := .int (bI (byB y6))) ⟨hx, hb, hml, hown, hts⟩ (c_X6_isByte l D T g m0 y6) (cwV 1 hts gX6_addMore_X6_isByte rfl rfl rfl (by decide +kernel) ⟨Nat.le_of_ble_eq_true rfl, Nat.le_of_ble_eq_true rfl⟩) (va_recv hK hP (ci := 3) (q0 := 0) rfl rfl) hP hK hG hS [] rfl ⟨Nat.zero_le _, Nat.zero_le _⟩ rfl hl.1 (Nat.le_of_ble_eq_true rfl) dX6_addMore_99 rfl ?_
                    refine lv_if_eq (tgt := 124) hx hb dX6_addMore_102 (by decide) (fun c_102 => ?_) (fun c_102 => ?_)
                    · have hr9a : false = arB m9 (gvN y0 y1 y2 y3 y4 y5 y6 y7) := (ar_n (k := 6) (by decide) (by first | exact lt_le (by decide) c_93 | exact nI_lt (by omega) (by omega)) (bI_z.mp c_102)).symm
                      refine lv_iconst (v := nI 0) hx hb dX6_addMore_124 (by decide +kernel) ?_
                      rw [show nI 0 = bI false from rfl]
                      exact J1 false (hr9a) ls (lv_sub hl [0, 1, 2, 3, 4, 5, 6, 7, 8, 9, 10] rfl)
                    · exact J8  (ar_s hk6 (by first | exact fun _ => bI_nz.mp c_102 | exact fun z => absurd z (lt_le' (by decide) c_93) | exact fun z => absurd ((nI_ltI (by omega) (by omega)).mp z) (by omega))) ls (lv_sub hl [0, 1, 2, 3, 4, 5, 6, 7, 8, 9, 10] rfl)
                refine lv_iload_n hx hb dX6_addMore_75 rfl (lv_at hl 2 rfl) ?_
                refine lv_bipush (v := (nI 6)) hx hb dX6_addMore_76 (by decide +kernel) ?_
                refine lv_icmp_lt (tgt := 90) hx hb dX6_addMore_78 (by decide) (fun c_78 => ?_) (fun c_78 => ?_)
                · exact J7  (ar_s hk5 (by first | exact fun _ => bI_nz.mp c_87 | exact fun z => absurd z (lt_le' (by decide) c_78) | exact fun z => absurd ((nI_ltI (by omega) (by omega)).mp z) (by omega))) ls (lv_sub hl [0, 1, 2, 3, 4, 5, 6, 7, 8, 9, 10] rfl)
                · refine lv_aload_n hx hb dX6_addMore_81 rfl (lv_at hl 0 rfl) ?_
                  refine lv_iload hx hb dX6_addMore_82 (lv_at hl 8 rfl) ?_
                  refine ro_V (As := [.int y5]) (rest := []) (wc := []) (r := .int (bI (byB y5))) ⟨hx, hb, hml, hown, hts⟩ (c_X6_isByte l D T g m0 y5) (cwV 1 hts gX6_addMore_X6_isByte rfl rfl rfl (by decide +kernel) ⟨Nat.le_of_ble_eq_true rfl, Nat.le_of_ble_eq_true rfl⟩) (va_recv hK hP (ci := 3) (q0 := 0) rfl rfl) hP hK hG hS [] rfl ⟨Nat.zero_le _, Nat.zero_le _⟩ rfl hl.1 (Nat.le_of_ble_eq_true rfl) dX6_addMore_84 rfl ?_
                  refine lv_if_eq (tgt := 124) hx hb dX6_addMore_87 (by decide) (fun c_87 => ?_) (fun c_87 => ?_)
                  · have hr9a : false = arB m9 (gvN y0 y1 y2 y3 y4 y5 y6 y7) := (ar_n (k := 5) (by decide) (by first | exact lt_le (by decide) c_78 | exact nI_lt (by omega) (by omega)) (bI_z.mp c_87)).symm
                    refine lv_iconst (v := nI 0) hx hb dX6_addMore_124 (by decide +kernel) ?_
                    rw [show nI 0 = bI false from rfl]
                    exact J1 false (hr9a) ls (lv_sub hl [0, 1, 2, 3, 4, 5, 6, 7, 8, 9, 10] rfl)
                  · exact J7  (ar_s hk5 (by first | exact fun _ => bI_nz.mp c_87 | exact fun z => absurd z (lt_le' (by decide) c_78) | exact fun z => absurd ((nI_ltI (by omega) (by omega)).mp z) (by omega))) ls (lv_sub hl [0, 1, 2, 3, 4, 5, 6, 7, 8, 9, 10] rfl)
              refine lv_iload_n hx hb dX6_addMore_61 rfl (lv_at hl 2 rfl) ?_
              refine lv_iconst (v := (nI 5)) hx hb dX6_addMore_62 (by decide +kernel) ?_
              refine lv_icmp_lt (tgt := 75) hx hb dX6_addMore_63 (by decide) (fun c_63 => ?_) (fun c_63 => ?_)
              · exact J6  (ar_s hk4 (by first | exact fun _ => bI_nz.mp c_72 | exact fun z => absurd z (lt_le' (by decide) c_63) | exact fun z => absurd ((nI_ltI (by omega) (by omega)).mp z) (by omega))) ls (lv_sub hl [0, 1, 2, 3, 4, 5, 6, 7, 8, 9, 10] rfl)
              · refine lv_aload_n hx hb dX6_addMore_66 rfl (lv_at hl 0 rfl) ?_
                refine lv_iload hx hb dX6_addMore_67 (lv_at hl 7 rfl) ?_
                refine ro_V (As := [.int y4]) (rest := []) (wc := []) (r := .int (bI (byB y4))) ⟨hx, hb, hml, hown, hts⟩ (c_X6_isByte l D T g m0 y4) (cwV 1 hts gX6_addMore_X6_isByte rfl rfl rfl (by decide +kernel) ⟨Nat.le_of_ble_eq_true rfl, Nat.le_of_ble_eq_true rfl⟩) (va_recv hK hP (ci := 3) (q0 := 0) rfl rfl) hP hK hG hS [] rfl ⟨Nat.zero_le _, Nat.zero_le _⟩ rfl hl.1 (Nat.le_of_ble_eq_true rfl) dX6_addMore_69 rfl ?_
                refine lv_if_eq (tgt := 124) hx hb dX6_addMore_72 (by decide) (fun c_72 => ?_) (fun c_72 => ?_)
                · have hr9a : false = arB m9 (gvN y0 y1 y2 y3 y4 y5 y6 y7) := (ar_n (k := 4) (by decide) (by first | exact lt_le (by decide) c_63 | exact nI_lt (by omega) (by omega)) (bI_z.mp c_72)).symm
                  refine lv_iconst (v := nI 0) hx hb dX6_addMore_124 (by decide +kernel) ?_
                  rw [show nI 0 = bI false from rfl]
                  exact J1 false (hr9a) ls (lv_sub hl [0, 1, 2, 3, 4, 5, 6, 7, 8, 9, 10] rfl)
                · exact J6  (ar_s hk4 (by first | exact fun _ => bI_nz.mp c_72 | exact fun z => absurd z (lt_le' (by decide) c_63) | exact fun z => absurd ((nI_ltI (by omega) (by omega)).mp z) (by omega))) ls (lv_sub hl [0, 1, 2, 3, 4, 5, 6, 7, 8, 9, 10] rfl)
            refine lv_iload_n hx hb dX6_addMore_47 rfl (lv_at hl 2 rfl) ?_
            refine lv_iconst (v := (nI 4)) hx hb dX6_addMore_48 (by decide +kernel) ?_
            refine lv_icmp_lt (tgt := 61) hx hb dX6_addMore_49 (by decide) (fun c_49 => ?_) (fun c_49 => ?_)
            · exact J5  (ar_s hk3 (by first | exact fun _ => bI_nz.mp c_58 | exact fun z => absurd z (lt_le' (by decide) c_49) | exact fun z => absurd ((nI_ltI (by omega) (by omega)).mp z) (by omega))) ls (lv_sub hl [0, 1, 2, 3, 4, 5, 6, 7, 8, 9, 10] rfl)
            · refine lv_aload_n hx hb dX6_addMore_52 rfl (lv_at hl 0 rfl) ?_
              refine lv_iload hx hb dX6_addMore_53 (lv_at hl 6 rfl) ?_
              refine ro_V (As := [.int y3]) (rest := []) (wc := []) (r := .int (bI (byB y3))) ⟨hx, hb, hml, hown, hts⟩ (c_X6_isByte l D T g m0 y3) (cwV 1 hts gX6_addMore_X6_isByte rfl rfl rfl (by decide +kernel) ⟨Nat.le_of_ble_eq_true rfl, Nat.le_of_ble_eq_true rfl⟩) (va_recv hK hP (ci := 3) (q0 := 0) rfl rfl) hP hK hG hS [] rfl ⟨Nat.zero_le _, Nat.zero_le _⟩ rfl hl.1 (Nat.le_of_ble_eq_true rfl) dX6_addMore_55 rfl ?_
              refine lv_if_eq (tgt := 124) hx hb dX6_addMore_58 (by decide) (fun c_58 => ?_) (fun c_58 => ?_)
              · have hr9a : false = arB m9 (gvN y0 y1 y2 y3 y4 y5 y6 y7) := (ar_n (k := 3) (by decide) (by first | exact lt_le (by decide) c_49 | exact nI_lt (by omega) (by omega)) (bI_z.mp c_58)).symm
                refine lv_iconst (v := nI 0) hx hb dX6_addMore_124 (by decide +kernel) ?_
                rw [show nI 0 = bI false from rfl]
                exact J1 false (hr9a) ls (lv_sub hl [0, 1, 2, 3, 4, 5, 6, 7, 8, 9, 10] rfl)
              · exact J5  (ar_s hk3 (by first | exact fun _ => bI_nz.mp c_58 | exact fun z => absurd z (lt_le' (by decide) c_49) | exact fun z => absurd ((nI_ltI (by omega) (by omega)).mp z) (by omega))) ls (lv_sub hl [0, 1, 2, 3, 4, 5, 6, 7, 8, 9, 10] rfl)
          refine lv_iload_n hx hb dX6_addMore_33 rfl (lv_at hl 2 rfl) ?_
          refine lv_iconst (v := (nI 3)) hx hb dX6_addMore_34 (by decide +kernel) ?_
          refine lv_icmp_lt (tgt := 47) hx hb dX6_addMore_35 (by decide) (fun c_35 => ?_) (fun c_35 => ?_)
          · exact J4  (ar_s hk2 (by first | exact fun _ => bI_nz.mp c_44 | exact fun z => absurd z (lt_le' (by decide) c_35) | exact fun z => absurd ((nI_ltI (by omega) (by omega)).mp z) (by omega))) ls (lv_sub hl [0, 1, 2, 3, 4, 5, 6, 7, 8, 9, 10] rfl)
          · refine lv_aload_n hx hb dX6_addMore_38 rfl (lv_at hl 0 rfl) ?_
            refine lv_iload hx hb dX6_addMore_39 (lv_at hl 5 rfl) ?_
            refine ro_V (As := [.int y2]) (rest := []) (wc := []) (r := .int (bI (byB y2))) ⟨hx, hb, hml, hown, hts⟩ (c_X6_isByte l D T g m0 y2) (cwV 1 hts gX6_addMore_X6_isByte rfl rfl rfl (by decide +kernel) ⟨Nat.le_of_ble_eq_true rfl, Nat.le_of_ble_eq_true rfl⟩) (va_recv hK hP (ci := 3) (q0 := 0) rfl rfl) hP hK hG hS [] rfl ⟨Nat.zero_le _, Nat.zero_le _⟩ rfl hl.1 (Nat.le_of_ble_eq_true rfl) dX6_addMore_41 rfl ?_
            refine lv_if_eq (tgt := 124) hx hb dX6_addMore_44 (by decide) (fun c_44 => ?_) (fun c_44 => ?_)
            · have hr9a : false = arB m9 (gvN y0 y1 y2 y3 y4 y5 y6 y7) := (ar_n (k := 2) (by decide) (by first | exact lt_le (by decide) c_35 | exact nI_lt (by omega) (by omega)) (bI_z.mp c_44)).symm
              refine lv_iconst (v := nI 0) hx hb dX6_addMore_124 (by decide +kernel) ?_
              rw [show nI 0 = bI false from rfl]
              exact J1 false (hr9a) ls (lv_sub hl [0, 1, 2, 3, 4, 5, 6, 7, 8, 9, 10] rfl)
            · exact J4  (ar_s hk2 (by first | exact fun _ => bI_nz.mp c_44 | exact fun z => absurd z (lt_le' (by decide) c_35) | exact fun z => absurd ((nI_ltI (by omega) (by omega)).mp z) (by omega))) ls (lv_sub hl [0, 1, 2, 3, 4, 5, 6, 7, 8, 9, 10] rfl)
        refine lv_iload_n hx hb dX6_addMore_19 rfl (lv_at hl 2 rfl) ?_
        refine lv_iconst (v := (nI 2)) hx hb dX6_addMore_20 (by decide +kernel) ?_
        refine lv_icmp_lt (tgt := 33) hx hb dX6_addMore_21 (by decide) (fun c_21 => ?_) (fun c_21 => ?_)
        · exact J3  (ar_s hk1 (by first | exact fun _ => bI_nz.mp c_30 | exact fun z => absurd z (lt_le' (by decide) c_21) | exact fun z => absurd ((nI_ltI (by omega) (by omega)).mp z) (by omega))) ls (lv_sub hl [0, 1, 2, 3, 4, 5, 6, 7, 8, 9, 10] rfl)
        · refine lv_aload_n hx hb dX6_addMore_24 rfl (lv_at hl 0 rfl) ?_
          refine lv_iload hx hb dX6_addMore_25 (lv_at hl 4 rfl) ?_
          refine ro_V (As := [.int y1]) (rest := []) (wc := []) (r := .int (bI (byB y1))) ⟨hx, hb, hml, hown, hts⟩ (c_X6_isByte l D T g m0 y1) (cwV 1 hts gX6_addMore_X6_isByte rfl rfl rfl (by decide +kernel) ⟨Nat.le_of_ble_eq_true rfl, Nat.le_of_ble_eq_true rfl⟩) (va_recv hK hP (ci := 3) (q0 := 0) rfl rfl) hP hK hG hS [] rfl ⟨Nat.zero_le _, Nat.zero_le _⟩ rfl hl.1 (Nat.le_of_ble_eq_true rfl) dX6_addMore_27 rfl ?_
          refine lv_if_eq (tgt := 124) hx hb dX6_addMore_30 (by decide) (fun c_30 => ?_) (fun c_30 => ?_)
          · have hr9a : false = arB m9 (gvN y0 y1 y2 y3 y4 y5 y6 y7) := (ar_n (k := 1) (by decide) (by first | exact lt_le (by decide) c_21 | exact nI_lt (by omega) (by omega)) (bI_z.mp c_30)).symm
            refine lv_iconst (v := nI 0) hx hb dX6_addMore_124 (by decide +kernel) ?_
            rw [show nI 0 = bI false from rfl]
            exact J1 false (hr9a) ls (lv_sub hl [0, 1, 2, 3, 4, 5, 6, 7, 8, 9, 10] rfl)
          · exact J3  (ar_s hk1 (by first | exact fun _ => bI_nz.mp c_30 | exact fun z => absurd z (lt_le' (by decide) c_21) | exact fun z => absurd ((nI_ltI (by omega) (by omega)).mp z) (by omega))) ls (lv_sub hl [0, 1, 2, 3, 4, 5, 6, 7, 8, 9, 10] rfl)
set_option maxHeartbeats 4000000 in
set_option maxRecDepth 100000 in
theorem m_addMore_3 (l : Launch) (D : va_G) (T : Nat → ClassId) (g : Nat → Nat) (sz : Nat) (m0 : Nat) (mb : Nat) (ml : Nat) (mm : Nat) (mk : Nat) (many : Nat) (th : Int32) (fb : Nat → Int32) (fl : Nat → Int32) (fm : Nat → Int32) (fk : Nat → Int32) (N : Nat → Nat) (Bw : Nat → Nat → Nat) (hMR : MR fl fb N Bw) (i : Nat) (hi : i < 6) (m9 : Nat) (hm : 1 ≤ m9 ∧ m9 ≤ 8) (y0 : Int32) (y1 : Int32) (y2 : Int32) (y3 : Int32) (y4 : Int32) (y5 : Int32) (y6 : Int32) (y7 : Int32) (z0 : Nat) (hz : z0 < m9) (hzb : (gvN y0 y1 y2 y3 y4 y5 y6 y7) z0 < 0 ∨ nI 255 < (gvN y0 y1 y2 y3 y4 y5 y6 y7) z0) : MU l yX6_addMore wsX6_addMore ({ frames := 62, cells := 0, slots := 0, locals := 3100 } : Room) D T g [.ref m0, .int (nI i), .int (nI m9), .int y0, .int y1, .int y2, .int y3, .int y4, .int y5, .int y6, .int y7] [(m0, .inr (3, [.ref mb, .ref ml, .ref mm, .int (nI many), .int th, .ref mk])), (mb, .inl (T 0, 1920, .inl fb)), (ml, .inl (T 0, 6, .inl fl)), (mm, .inl (T 0, 600, .inl fm)), (mk, .inl (T 0, 320, .inl fk))] sz (fun u : Nat × Int32 × (Nat → Int32) × (Nat → Int32) × (Nat → Int32) × (Nat → Int32) => some (.int (nI 0))) (fun u : Nat × Int32 × (Nat → Int32) × (Nat → Int32) × (Nat → Int32) × (Nat → Int32) => u.2.1 = nI 2 ∧ MR u.2.2.2.1 u.2.2.1 (N) (Bw)) (fun u : Nat × Int32 × (Nat → Int32) × (Nat → Int32) × (Nat → Int32) × (Nat → Int32) => [(m0, .inr (3, [.ref mb, .ref ml, .ref mm, .int (nI u.1), .int u.2.1, .ref mk])), (mb, .inl (T 0, 1920, .inl u.2.2.1)), (ml, .inl (T 0, 6, .inl u.2.2.2.1)), (mm, .inl (T 0, 600, .inl u.2.2.2.2.1)), (mk, .inl (T 0, 320, .inl u.2.2.2.2.2))]) 0 0 := by
  refine Met.ofW (cc := cX6_addMore) (maxL := 13) (ret := (some .int)) (by decide) rfl ?_
  intro p e s m args below meth c s₁ B hml hv
  obtain ⟨rfl, hsz, hP, hK, hD0, hG⟩ := hv
  have hx := B.exec
  have hb := B.bytes
  have hr := B.returns
  have hts := atoms_spec (ws := wsX6_addMore) B.pre
  have hown : s.vm.findClass RX6 = some m.cls := findClass_of_methodNamed B.named
  have hlocks := B.notSynchronized
  subst hsz
  have hD := hD0.self (sz := s.heap.size)
  generalize hAe : va_A [(m0, .inr (3, [.ref mb, .ref ml, .ref mm, .int (nI many), .int th, .ref mk])), (mb, .inl (T 0, 1920, .inl fb)), (ml, .inl (T 0, 6, .inl fl)), (mm, .inl (T 0, 600, .inl fm)), (mk, .inl (T 0, 320, .inl fk))] s.heap.size = A at hD hG ⊢
  have hA : ∀ q : Nat, s.heap.size ≤ q → A q := fun q h => by rw [← hAe]; exact Or.inr h
  have hS : va_S A s.heap s.heap [] := va_S.rf
  have hP : va_P D cls [(m0, .inr (3, [.ref mb, .ref ml, .ref mm, .int (nI many), .int th, .ref mk])), (mb, .inl (T 0, 1920, .inl fb)), (ml, .inl (T 0, 6, .inl fl)), (mm, .inl (T 0, 600, .inl fm)), (mk, .inl (T 0, 320, .inl fk))] s.heap := hP
  have hl := lv_entry ([.ref m0, .int (nI i), .int (nI m9), .int y0, .int y1, .int y2, .int y3, .int y4, .int y5, .int y6, .int y7]) (n := 13) (Nat.le_of_ble_eq_true rfl)
  rw [lg_entry_eq]
  generalize (lg_sl ([.ref m0, .int (nI i), .int (nI m9), .int y0, .int y1, .int y2, .int y3, .int y4, .int y5, .int y6, .int y7]) ++ List.replicate (13 - (lg_sl ([.ref m0, .int (nI i), .int (nI m9), .int y0, .int y1, .int y2, .int y3, .int y4, .int y5, .int y6, .int y7])).length) Slot.unset).toArray = ls at hl ⊢
  have hl : lv_has ls 13 [(0, .ref m0), (1, .int (nI i)), (2, .int (nI m9)), (3, .int y0), (4, .int y1), (5, .int y2), (6, .int y3), (7, .int y4), (8, .int y5), (9, .int y6), (10, .int y7)] := hl
  have J1 : ∀ (r9 : Bool), (r9 = arB (nI m9) (gvN y0 y1 y2 y3 y4 y5 y6 y7)) → ∀ ls : Array Slot, lv_has ls 13 [(0, .ref m0), (1, .int (nI i)), (2, .int (nI m9)), (3, .int y0), (4, .int y1), (5, .int y2), (6, .int y3), (7, .int y4), (8, .int y5), (9, .int y6), (10, .int y7)] → W p l e (headSpec wsX6_addMore ({ frames := 62, cells := 0, slots := 0, locals := 3100 } : Room)).room s m ([.ref m0, .int (nI i), .int (nI m9), .int y0, .int y1, .int y2, .int y3, .int y4, .int y5, .int y6, .int y7] : List Value).toArray below meth c s.heap [] 0 0 (MQ below (QM D T A (fun u : Nat × Int32 × (Nat → Int32) × (Nat → Int32) × (Nat → Int32) × (Nat → Int32) => some (.int (nI 0))) (fun u : Nat × Int32 × (Nat → Int32) × (Nat → Int32) × (Nat → Int32) × (Nat → Int32) => u.2.1 = nI 2 ∧ MR u.2.2.2.1 u.2.2.1 (N) (Bw)) (fun u : Nat × Int32 × (Nat → Int32) × (Nat → Int32) × (Nat → Int32) × (Nat → Int32) => [(m0, .inr (3, [.ref mb, .ref ml, .ref mm, .int (nI u.1), .int u.2.1, .ref mk])), (mb, .inl (T 0, 1920, .inl u.2.2.1)), (ml, .inl (T 0, 6, .inl u.2.2.2.1)), (mm, .inl (T 0, 600, .inl u.2.2.2.2.1)), (mk, .inl (T 0, 320, .inl u.2.2.2.2.2))])) ([.ref m0, .int (nI i), .int (nI m9), .int y0, .int y1, .int y2, .int y3, .int y4, .int y5, .int y6, .int y7] : List Value).toArray s 0 0 A) (F0 m 125 ls [.int (bI r9)]) := by
    intro r9 hr9 ls hl
    refine lv_istore (lv' := [(11, .int (bI r9)), (0, .ref m0), (1, .int (nI i)), (2, .int (nI m9)), (3, .int y0), (4, .int y1), (5, .int y2), (6, .int y3), (7, .int y4), (8, .int y5), (9, .int y6), (10, .int y7)]) hx hb dX6_addMore_125 hl (by decide) rfl (fun ls hl => ?_)
    have hr8 : r9 = false := hr9.trans (ar_b hm.2 hz hzb)
    rw [hr8] at hl
    refine lv_aload_n hx hb dX6_addMore_127 rfl (lv_at hl 1 rfl) ?_
    refine lv_aload_n hx hb dX6_addMore_128 rfl (lv_at hl 1 rfl) ?_
    refine lv_iload_n hx hb dX6_addMore_129 rfl (lv_at hl 2 rfl) ?_
    refine ro_V (As := [.int (nI i)]) (rest := [.ref m0]) (wc := []) (r := .int (nI 1)) ⟨hx, hb, hml, hown, hts⟩ (c_X6_isRow_y l D T g m0 i (by omega)) (cwV 1 hts gX6_addMore_X6_isRow rfl rfl rfl (by decide +kernel) ⟨Nat.le_of_ble_eq_true rfl, Nat.le_of_ble_eq_true rfl⟩) (va_recv hK hP (ci := 3) (q0 := 0) rfl rfl) hP hK hG hS [] rfl ⟨Nat.zero_le _, Nat.zero_le _⟩ rfl hl.1 (Nat.le_of_ble_eq_true rfl) dX6_addMore_130 rfl ?_
    refine ln_if_ne_t (tgt := 140) hx hb (by omega) (by decide) dX6_addMore_133 (by decide) ?_
    refine lv_iload hx hb dX6_addMore_140 (lv_at hl 0 rfl) ?_
    refine lv_if_ne (tgt := 149) hx hb dX6_addMore_142 (by decide) (fun q9 => absurd (rfl) q9) (fun _ => ?_)
    refine lv_iconst (v := (nI 2)) hx hb dX6_addMore_145 (by decide +kernel) ?_
    refine lv_goto (tgt := 168) hx hb dX6_addMore_146 (by decide) ?_
    refine mu_V (As := [.int (nI 2)]) (rest := []) (wc := [(m0, .inr (3, [.ref mb, .ref ml, .ref mm, .int (nI many), .int th, .ref mk]))]) (wr := [(mb, .inl (T 0, 1920, .inl fb)), (ml, .inl (T 0, 6, .inl fl)), (mm, .inl (T 0, 600, .inl fm)), (mk, .inl (T 0, 320, .inl fk))]) ⟨hx, hb, hml, hown, hts⟩ (c_X6_isWrong_p l D T g s.heap.size m0 mb ml mm mk many th 2 (by omega)) (cwV 1 hts gX6_addMore_X6_isWrong rfl rfl rfl (by decide +kernel) ⟨Nat.le_of_ble_eq_true rfl, Nat.le_of_ble_eq_true rfl⟩) (va_recv hK hP (ci := 3) (q0 := 0) rfl rfl) hP hD hK hG hS hA [0] [1, 2, 3, 4] rfl (by decide) rfl (by decide) (by decide) ⟨Nat.le_of_ble_eq_true rfl, Nat.le_of_ble_eq_true rfl⟩ rfl hl.1 (Nat.le_of_ble_eq_true rfl) dX6_addMore_168 rfl (fun u H locs hq2 hP hD hS => ?_)
    have hP : va_P D cls [(mb, .inl (T 0, 1920, .inl fb)), (ml, .inl (T 0, 6, .inl fl)), (mm, .inl (T 0, 600, .inl fm)), (mk, .inl (T 0, 320, .inl fk)), (m0, .inr (3, [.ref mb, .ref ml, .ref mm, .int (nI many), .int (nI 2), .ref mk]))] H := hP
    have hD : va_D A [(mb, .inl (T 0, 1920, .inl fb)), (ml, .inl (T 0, 6, .inl fl)), (mm, .inl (T 0, 600, .inl fm)), (mk, .inl (T 0, 320, .inl fk)), (m0, .inr (3, [.ref mb, .ref ml, .ref mm, .int (nI many), .int (nI 2), .ref mk]))] := hD
    refine W.eq (g2 := F0 m 171 ls [.int (nI 1)]) rfl ?_
    refine ln_if_eq_f (tgt := 176) hx hb (by omega) (by decide) dX6_addMore_171 (by decide) ?_
    refine lv_iconst (v := (nI 0)) hx hb dX6_addMore_174 (by decide +kernel) ?_
    have hP9 := hP.sub (ws' := [(m0, .inr (3, [.ref mb, .ref ml, .ref mm, .int (nI many), .int (nI 2), .ref mk])), (mb, .inl (T 0, 1920, .inl fb)), (ml, .inl (T 0, 6, .inl fl)), (mm, .inl (T 0, 600, .inl fm)), (mk, .inl (T 0, 320, .inl fk))]) [4, 0, 1, 2, 3] rfl
    have hD9 := hD.sub (ws' := [(m0, .inr (3, [.ref mb, .ref ml, .ref mm, .int (nI many), .int (nI 2), .ref mk])), (mb, .inl (T 0, 1920, .inl fb)), (ml, .inl (T 0, 6, .inl fl)), (mm, .inl (T 0, 600, .inl fm)), (mk, .inl (T 0, 320, .inl fk))]) [4, 0, 1, 2, 3] (by decide) rfl
    exact W.iret (v := (nI 0)) hx hb hr (fun t ht hW => ⟨⟨(many, (nI 2), fb, fl, fm, fk), rfl, show (nI 2) = nI 2 ∧ MR fl fb (N) (Bw) from ⟨rfl, hMR⟩, (by rw [ht]; exact hP9), va_K.moved hW.alike hK, hD9⟩, hS.F ht⟩) hS.2.2 dX6_addMore_175
  refine lv_iconst (v := (nI 1)) hx hb dX6_addMore_0 (by decide +kernel) ?_
  refine lv_iload_n hx hb dX6_addMore_1 rfl (lv_at hl 2 rfl) ?_
  refine ln_icmp_gt (tgt := 124) hx hb ⟨by omega, by omega⟩ dX6_addMore_2 (by decide) (fun c_2 => ?_) (fun c_2 => ?_)
  · have hr9a : false = arB (nI m9) (gvN y0 y1 y2 y3 y4 y5 y6 y7) := (ar_m (Or.inl (by first | exact c_2 | exact nI_lt (by omega) (by omega)))).symm
    refine lv_iconst (v := nI 0) hx hb dX6_addMore_124 (by decide +kernel) ?_
    rw [show nI 0 = bI false from rfl]
    exact J1 false (hr9a) ls (lv_sub hl [0, 1, 2, 3, 4, 5, 6, 7, 8, 9, 10] rfl)
  · refine lv_iload_n hx hb dX6_addMore_5 rfl (lv_at hl 2 rfl) ?_
    refine lv_bipush (v := (nI 8)) hx hb dX6_addMore_6 (by decide +kernel) ?_
    refine ln_icmp_gt (tgt := 124) hx hb ⟨by omega, by omega⟩ dX6_addMore_8 (by decide) (fun c_8 => ?_) (fun c_8 => ?_)
    · have hr9a : false = arB (nI m9) (gvN y0 y1 y2 y3 y4 y5 y6 y7) := (ar_m (Or.inr (by first | exact Int32.not_le.mpr c_8 | exact nI_ge (by omega) (by omega)))).symm
      refine lv_iconst (v := nI 0) hx hb dX6_addMore_124 (by decide +kernel) ?_
      rw [show nI 0 = bI false from rfl]
      exact J1 false (hr9a) ls (lv_sub hl [0, 1, 2, 3, 4, 5, 6, 7, 8, 9, 10] rfl)
    · have hge : nI 1 ≤ (nI m9) := nI_le (by omega) (by omega)
      refine lv_aload_n hx hb dX6_addMore_11 rfl (lv_at hl 0 rfl) ?_
      refine lv_iload_n hx hb dX6_addMore_12 rfl (lv_at hl 3 rfl) ?_
      refine ro_V (As := [.int y0]) (rest := []) (wc := []) (r := .int (bI (byB y0))) ⟨hx, hb, hml, hown, hts⟩ (c_X6_isByte l D T g m0 y0) (cwV 1 hts gX6_addMore_X6_isByte rfl rfl rfl (by decide +kernel) ⟨Nat.le_of_ble_eq_true rfl, Nat.le_of_ble_eq_true rfl⟩) (va_recv hK hP (ci := 3) (q0 := 0) rfl rfl) hP hK hG hS [] rfl ⟨Nat.zero_le _, Nat.zero_le _⟩ rfl hl.1 (Nat.le_of_ble_eq_true rfl) dX6_addMore_13 rfl ?_
      refine lv_if_eq (tgt := 124) hx hb dX6_addMore_16 (by decide) (fun c_16 => ?_) (fun c_16 => ?_)
      · have hr9a : false = arB (nI m9) (gvN y0 y1 y2 y3 y4 y5 y6 y7) := (ar_n (k := 0) (by decide) (lt_le (by decide) (fun z => Int32.not_le.mpr z hge)) (bI_z.mp c_16)).symm
        refine lv_iconst (v := nI 0) hx hb dX6_addMore_124 (by decide +kernel) ?_
        rw [show nI 0 = bI false from rfl]
        exact J1 false (hr9a) ls (lv_sub hl [0, 1, 2, 3, 4, 5, 6, 7, 8, 9, 10] rfl)
      · have hk1 : ∀ j, j < 1 → nI j < (nI m9) → byB (gvN y0 y1 y2 y3 y4 y5 y6 y7 j) = true := fun j hj _ => by have e : j = 0 := (by omega); subst e; exact bI_nz.mp c_16
        have J3 : (∀ j, j < 2 → nI j < (nI m9) → byB (gvN y0 y1 y2 y3 y4 y5 y6 y7 j) = true) → ∀ ls : Array Slot, lv_has ls 13 [(0, .ref m0), (1, .int (nI i)), (2, .int (nI m9)), (3, .int y0), (4, .int y1), (5, .int y2), (6, .int y3), (7, .int y4), (8, .int y5), (9, .int y6), (10, .int y7)] → W p l e (headSpec wsX6_addMore ({ frames := 62, cells := 0, slots := 0, locals := 3100 } : Room)).room s m ([.ref m0, .int (nI i), .int (nI m9), .int y0, .int y1, .int y2, .int y3, .int y4, .int y5, .int y6, .int y7] : List Value).toArray below meth c s.heap [] 0 0 (MQ below (QM D T A (fun u : Nat × Int32 × (Nat → Int32) × (Nat → Int32) × (Nat → Int32) × (Nat → Int32) => some (.int (nI 0))) (fun u : Nat × Int32 × (Nat → Int32) × (Nat → Int32) × (Nat → Int32) × (Nat → Int32) => u.2.1 = nI 2 ∧ MR u.2.2.2.1 u.2.2.1 (N) (Bw)) (fun u : Nat × Int32 × (Nat → Int32) × (Nat → Int32) × (Nat → Int32) × (Nat → Int32) => [(m0, .inr (3, [.ref mb, .ref ml, .ref mm, .int (nI u.1), .int u.2.1, .ref mk])), (mb, .inl (T 0, 1920, .inl u.2.2.1)), (ml, .inl (T 0, 6, .inl u.2.2.2.1)), (mm, .inl (T 0, 600, .inl u.2.2.2.2.1)), (mk, .inl (T 0, 320, .inl u.2.2.2.2.2))])) ([.ref m0, .int (nI i), .int (nI m9), .int y0, .int y1, .int y2, .int y3, .int y4, .int y5, .int y6, .int y7] : List Value).toArray s 0 0 A) (F0 m 33 ls []) := by
          intro  hk2 ls hl
          have J4 : (∀ j, j < 3 → nI j < (nI m9) → byB (gvN y0 y1 y2 y3 y4 y5 y6 y7 j) = true) → ∀ ls : Array Slot, lv_has ls 13 [(0, .ref m0), (1, .int (nI i)), (2, .int (nI m9)), (3, .int y0), (4, .int y1), (5, .int y2), (6, .int y3), (7, .int y4), (8, .int y5), (9, .int y6), (10, .int y7)] → W p l e (headSpec wsX6_addMore ({ frames := 62, cells := 0, slots := 0, locals := 3100 } : Room)).room s m ([.ref m0, .int (nI i), .int (nI m9), .int y0, .int y1, .int y2, .int y3, .int y4, .int y5, .int y6, .int y7] : List Value).toArray below meth c s.heap [] 0 0 (MQ below (QM D T A (fun u : Nat × Int32 × (Nat → Int32) × (Nat → Int32) × (Nat → Int32) × (Nat → Int32) => some (.int (nI 0))) (fun u : Nat × Int32 × (Nat → Int32) × (Nat → Int32) × (Nat → Int32) × (Nat → Int32) => u.2.1 = nI 2 ∧ MR u.2.2.2.1 u.2.2.1 (N) (Bw)) (fun u : Nat × Int32 × (Nat → Int32) × (Nat → Int32) × (Nat → Int32) × (Nat → Int32) => [(m0, .inr (3, [.ref mb, .ref ml, .ref mm, .int (nI u.1), .int u.2.1, .ref mk])), (mb, .inl (T 0, 1920, .inl u.2.2.1)), (ml, .inl (T 0, 6, .inl u.2.2.2.1)), (mm, .inl (T 0, 600, .inl u.2.2.2.2.1)), (mk, .inl (T 0, 320, .inl u.2.2.2.2.2))])) ([.ref m0, .int (nI i), .int (nI m9), .int y0, .int y1, .int y2, .int y3, .int y4, .int y5, .int y6, .int y7] : List Value).toArray s 0 0 A) (F0 m 47 ls []) := by
            intro  hk3 ls hl
            have J5 : (∀ j, j < 4 → nI j < (nI m9) → byB (gvN y0 y1 y2 y3 y4 y5 y6 y7 j) = true) → ∀ ls : Array Slot, lv_has ls 13 [(0, .ref m0), (1, .int (nI i)), (2, .int (nI m9)), (3, .int y0), (4, .int y1), (5, .int y2), (6, .int y3), (7, .int y4), (8, .int y5), (9, .int y6), (10, .int y7)] → W p l e (headSpec wsX6_addMore ({ frames := 62, cells := 0, slots := 0, locals := 3100 } : Room)).room s m ([.ref m0, .int (nI i), .int (nI m9), .int y0, .int y1, .int y2, .int y3, .int y4, .int y5, .int y6, .int y7] : List Value).toArray below meth c s.heap [] 0 0 (MQ below (QM D T A (fun u : Nat × Int32 × (Nat → Int32) × (Nat → Int32) × (Nat → Int32) × (Nat → Int32) => some (.int (nI 0))) (fun u : Nat × Int32 × (Nat → Int32) × (Nat → Int32) × (Nat → Int32) × (Nat → Int32) => u.2.1 = nI 2 ∧ MR u.2.2.2.1 u.2.2.1 (N) (Bw)) (fun u : Nat × Int32 × (Nat → Int32) × (Nat → Int32) × (Nat → Int32) × (Nat → Int32) => [(m0, .inr (3, [.ref mb, .ref ml, .ref mm, .int (nI u.1), .int u.2.1, .ref mk])), (mb, .inl (T 0, 1920, .inl u.2.2.1)), (ml, .inl (T 0, 6, .inl u.2.2.2.1)), (mm, .inl (T 0, 600, .inl u.2.2.2.2.1)), (mk, .inl (T 0, 320, .inl u.2.2.2.2.2))])) ([.ref m0, .int (nI i), .int (nI m9), .int y0, .int y1, .int y2, .int y3, .int y4, .int y5, .int y6, .int y7] : List Value).toArray s 0 0 A) (F0 m 61 ls []) := by
              intro  hk4 ls hl
              have J6 : (∀ j, j < 5 → nI j < (nI m9) → byB (gvN y0 y1 y2 y3 y4 y5 y6 y7 j) = true) → ∀ ls : Array Slot, lv_has ls 13 [(0, .ref m0), (1, .int (nI i)), (2, .int (nI m9)), (3, .int y0), (4, .int y1), (5, .int y2), (6, .int y3), (7, .int y4), (8, .int y5), (9, .int y6), (10, .int y7)] → W p l e (headSpec wsX6_addMore ({ frames := 62, cells := 0, slots := 0, locals := 3100 } : Room)).room s m ([.ref m0, .int (nI i), .int (nI m9), .int y0, .int y1, .int y2, .int y3, .int y4, .int y5, .int y6, .int y7] : List Value).toArray below meth c s.heap [] 0 0 (MQ below (QM D T A (fun u : Nat × Int32 × (Nat → Int32) × (Nat → Int32) × (Nat → Int32) × (Nat → Int32) => some (.int (nI 0))) (fun u : Nat × Int32 × (Nat → Int32) × (Nat → Int32) × (Nat → Int32) × (Nat → Int32) => u.2.1 = nI 2 ∧ MR u.2.2.2.1 u.2.2.1 (N) (Bw)) (fun u : Nat × Int32 × (Nat → Int32) × (Nat → Int32) × (Nat → Int32) × (Nat → Int32) => [(m0, .inr (3, [.ref mb, .ref ml, .ref mm, .int (nI u.1), .int u.2.1, .ref mk])), (mb, .inl (T 0, 1920, .inl u.2.2.1)), (ml, .inl (T 0, 6, .inl u.2.2.2.1)), (mm, .inl (T 0, 600, .inl u.2.2.2.2.1)), (mk, .inl (T 0, 320, .inl u.2.2.2.2.2))])) ([.ref m0, .int (nI i), .int (nI m9), .int y0, .int y1, .int y2, .int y3, .int y4, .int y5, .int y6, .int y7] : List Value).toArray s 0 0 A) (F0 m 75 ls []) := by
                intro  hk5 ls hl
                have J7 : (∀ j, j < 6 → nI j < (nI m9) → byB (gvN y0 y1 y2 y3 y4 y5 y6 y7 j) = true) → ∀ ls : Array Slot, lv_has ls 13 [(0, .ref m0), (1, .int (nI i)), (2, .int (nI m9)), (3, .int y0), (4, .int y1), (5, .int y2), (6, .int y3), (7, .int y4), (8, .int y5), (9, .int y6), (10, .int y7)] → W p l e (headSpec wsX6_addMore ({ frames := 62, cells := 0, slots := 0, locals := 3100 } : Room)).room s m ([.ref m0, .int (nI i), .int (nI m9), .int y0, .int y1, .int y2, .int y3, .int y4, .int y5, .int y6, .int y7] : List Value).toArray below meth c s.heap [] 0 0 (MQ below (QM D T A (fun u : Nat × Int32 × (Nat → Int32) × (Nat → Int32) × (Nat → Int32) × (Nat → Int32) => some (.int (nI 0))) (fun u : Nat × Int32 × (Nat → Int32) × (Nat → Int32) × (Nat → Int32) × (Nat → Int32) => u.2.1 = nI 2 ∧ MR u.2.2.2.1 u.2.2.1 (N) (Bw)) (fun u : Nat × Int32 × (Nat → Int32) × (Nat → Int32) × (Nat → Int32) × (Nat → Int32) => [(m0, .inr (3, [.ref mb, .ref ml, .ref mm, .int (nI u.1), .int u.2.1, .ref mk])), (mb, .inl (T 0, 1920, .inl u.2.2.1)), (ml, .inl (T 0, 6, .inl u.2.2.2.1)), (mm, .inl (T 0, 600, .inl u.2.2.2.2.1)), (mk, .inl (T 0, 320, .inl u.2.2.2.2.2))])) ([.ref m0, .int (nI i), .int (nI m9), .int y0, .int y1, .int y2, .int y3, .int y4, .int y5, .int y6, .int y7] : List Value).toArray s 0 0 A) (F0 m 90 ls []) := by
                  intro  hk6 ls hl
                  have J8 : (∀ j, j < 7 → nI j < (nI m9) → byB (gvN y0 y1 y2 y3 y4 y5 y6 y7 j) = true) → ∀ ls : Array Slot, lv_has ls 13 [(0, .ref m0), (1, .int (nI i)), (2, .int (nI m9)), (3, .int y0), (4, .int y1), (5, .int y2), (6, .int y3), (7, .int y4), (8, .int y5), (9, .int y6), (10, .int y7)] → W p l e (headSpec wsX6_addMore ({ frames := 62, cells := 0, slots := 0, locals := 3100 } : Room)).room s m ([.ref m0, .int (nI i), .int (nI m9), .int y0, .int y1, .int y2, .int y3, .int y4, .int y5, .int y6, .int y7] : List Value).toArray below meth c s.heap [] 0 0 (MQ below (QM D T A (fun u : Nat × Int32 × (Nat → Int32) × (Nat → Int32) × (Nat → Int32) × (Nat → Int32) => some (.int (nI 0))) (fun u : Nat × Int32 × (Nat → Int32) × (Nat → Int32) × (Nat → Int32) × (Nat → Int32) => u.2.1 = nI 2 ∧ MR u.2.2.2.1 u.2.2.1 (N) (Bw)) (fun u : Nat × Int32 × (Nat → Int32) × (Nat → Int32) × (Nat → Int32) × (Nat → Int32) => [(m0, .inr (3, [.ref mb, .ref ml, .ref mm, .int (nI u.1), .int u.2.1, .ref mk])), (mb, .inl (T 0, 1920, .inl u.2.2.1)), (ml, .inl (T 0, 6, .inl u.2.2.2.1)), (mm, .inl (T 0, 600, .inl u.2.2.2.2.1)), (mk, .inl (T 0, 320, .inl u.2.2.2.2.2))])) ([.ref m0, .int (nI i), .int (nI m9), .int y0, .int y1, .int y2, .int y3, .int y4, .int y5, .int y6, .int y7] : List Value).toArray s 0 0 A) (F0 m 105 ls []) := by
                    intro  hk7 ls hl
                    have J9 : (∀ j, j < 8 → nI j < (nI m9) → byB (gvN y0 y1 y2 y3 y4 y5 y6 y7 j) = true) → ∀ ls : Array Slot, lv_has ls 13 [(0, .ref m0), (1, .int (nI i)), (2, .int (nI m9)), (3, .int y0), (4, .int y1), (5, .int y2), (6, .int y3), (7, .int y4), (8, .int y5), (9, .int y6), (10, .int y7)] → W p l e (headSpec wsX6_addMore ({ frames := 62, cells := 0, slots := 0, locals := 3100 } : Room)).room s m ([.ref m0, .int (nI i), .int (nI m9), .int y0, .int y1, .int y2, .int y3, .int y4, .int y5, .int y6, .int y7] : List Value).toArray below meth c s.heap [] 0 0 (MQ below (QM D T A (fun u : Nat × Int32 × (Nat → Int32) × (Nat → Int32) × (Nat → Int32) × (Nat → Int32) => some (.int (nI 0))) (fun u : Nat × Int32 × (Nat → Int32) × (Nat → Int32) × (Nat → Int32) × (Nat → Int32) => u.2.1 = nI 2 ∧ MR u.2.2.2.1 u.2.2.1 (N) (Bw)) (fun u : Nat × Int32 × (Nat → Int32) × (Nat → Int32) × (Nat → Int32) × (Nat → Int32) => [(m0, .inr (3, [.ref mb, .ref ml, .ref mm, .int (nI u.1), .int u.2.1, .ref mk])), (mb, .inl (T 0, 1920, .inl u.2.2.1)), (ml, .inl (T 0, 6, .inl u.2.2.2.1)), (mm, .inl (T 0, 600, .inl u.2.2.2.2.1)), (mk, .inl (T 0, 320, .inl u.2.2.2.2.2))])) ([.ref m0, .int (nI i), .int (nI m9), .int y0, .int y1, .int y2, .int y3, .int y4, .int y5, .int y6, .int y7] : List Value).toArray s 0 0 A) (F0 m 120 ls []) := by
                      intro  hk8 ls hl
                      have hr9a : true = arB (nI m9) (gvN y0 y1 y2 y3 y4 y5 y6 y7) := (@decide_eq_true _ (Classical.propDecidable _) ⟨hge, nI_le (by omega) (by decide), hk8⟩).symm
                      refine lv_iconst (v := (nI 1)) hx hb dX6_addMore_120 (by decide +kernel) ?_
                      refine lv_goto (tgt := 125) hx hb dX6_addMore_121 (by decide) ?_
                      rw [show nI 1 = bI true from rfl]
                      exact J1 true (hr9a) ls (lv_sub hl [0, 1, 2, 3, 4, 5, 6, 7, 8, 9, 10] rfl)
                    refine lv_iload_n hx hb dX6_addMore_105 rfl (lv_at hl 2 rfl) ?_
                    refine lv_bipush (v := (nI 8)) hx hb dX6_addMore_106 (by decide +kernel) ?_
                    refine ln_icmp_lt (tgt := 120) hx hb ⟨by omega, by omega⟩ dX6_addMore_108 (by decide) (fun c_108 => ?_) (fun c_108 => ?_)
                    · exact J9  (ar_s hk7 (by first | exact fun _ => bI_nz.mp c_117 | exact fun z => absurd z (lt_le' (by decide) c_108) | exact fun z => absurd ((nI_ltI (by omega) (by omega)).mp z) (by omega))) ls (lv_sub hl [0, 1, 2, 3, 4, 5, 6, 7, 8, 9, 10] rfl)
                    · refine lv_aload_n hx hb dX6_addMore_111 rfl (lv_at hl 0 rfl) ?_
                      refine lv_iload hx hb dX6_addMore_112 (lv_at hl 10 rfl) ?_
                      refine ro_V (As := [.int y7]) (rest := []) (wc := []) (r := .int (bI (byB y7))) ⟨hx, hb, hml, hown, hts⟩ (c_X6_isByte l D T g m0 y7) (cwV 1 hts gX6_addMore_X6_isByte rfl rfl rfl (by decide +kernel) ⟨Nat.le_of_ble_eq_true rfl, Nat.le_of_ble_eq_true rfl⟩) (va_recv hK hP (ci := 3) (q0 := 0) rfl rfl) hP hK hG hS [] rfl ⟨Nat.zero_le _, Nat.zero_le _⟩ rfl hl.1 (Nat.le_of_ble_eq_true rfl) dX6_addMore_114 rfl ?_
                      refine lv_if_eq (tgt := 124) hx hb dX6_addMore_117 (by decide) (fun c_117 => ?_) (fun c_117 => ?_)
                      · have hr9a : false = arB (nI m9) (gvN y0 y1 y2 y3 y4 y5 y6 y7) := (ar_n (k := 7) (by decide) (by first | exact lt_le (by decide) c_108 | exact nI_lt (by omega) (by omega)) (bI_z.mp c_117)).symm
                        refine lv_iconst (v := nI 0) hx hb dX6_addMore_124 (by decide +kernel) ?_
                        rw [show nI 0 = bI false from rfl]
                        exact J1 false (hr9a) ls (lv_sub hl [0, 1, 2, 3, 4, 5, 6, 7, 8, 9, 10] rfl)
                      · exact J9  (ar_s hk7 (by first | exact fun _ => bI_nz.mp c_117 | exact fun z => absurd z (lt_le' (by decide) c_108) | exact fun z => absurd ((nI_ltI (by omega) (by omega)).mp z) (by omega))) ls (lv_sub hl [0, 1, 2, 3, 4, 5, 6, 7, 8, 9, 10] rfl)
                  refine lv_iload_n hx hb dX6_addMore_90 rfl (lv_at hl 2 rfl) ?_
                  refine lv_bipush (v := (nI 7)) hx hb dX6_addMore_91 (by decide +kernel) ?_
                  refine ln_icmp_lt (tgt := 105) hx hb ⟨by omega, by omega⟩ dX6_addMore_93 (by decide) (fun c_93 => ?_) (fun c_93 => ?_)
                  · exact J8  (ar_s hk6 (by first | exact fun _ => bI_nz.mp c_102 | exact fun z => absurd z (lt_le' (by decide) c_93) | exact fun z => absurd ((nI_ltI (by omega) (by omega)).mp z) (by omega))) ls (lv_sub hl [0, 1, 2, 3, 4, 5, 6, 7, 8, 9, 10] rfl)
                  · refine lv_aload_n hx hb dX6_addMore_96 rfl (lv_at hl 0 rfl) ?_
                    refine lv_iload hx hb dX6_addMore_97 (lv_at hl 9 rfl) ?_
                    refine ro_V (As := [.int y6]) (rest := []) (wc := []) (r := .int (bI (byB y6))) ⟨hx, hb, hml, hown, hts⟩ (c_X6_isByte l D T g m0 y6) (cwV 1 hts gX6_addMore_X6_isByte rfl rfl rfl (by decide +kernel) ⟨Nat.le_of_ble_eq_true rfl, Nat.le_of_ble_eq_true rfl⟩) (va_recv hK hP (ci := 3) (q0 := 0) rfl rfl) hP hK hG hS [] rfl ⟨Nat.zero_le _, Nat.zero_le _⟩ rfl hl.1 (Nat.le_of_ble_eq_true rfl) dX6_addMore_99 rfl ?_
                    refine lv_if_eq (tgt := 124) hx hb dX6_addMore_102 (by decide) (fun c_102 => ?_) (fun c_102 => ?_)
                    · have hr9a : false = arB (nI m9) (gvN y0 y1 y2 y3 y4 y5 y6 y7) := (ar_n (k := 6) (by decide) (by first | exact lt_le (by decide) c_93 | exact nI_lt (by omega) (by omega)) (bI_z.mp c_102)).symm
                      refine lv_iconst (v := nI 0) hx hb dX6_addMore_124 (by decide +kernel) ?_
                      rw [show nI 0 = bI false from rfl]
                      exact J1 false (hr9a) ls (lv_sub hl [0, 1, 2, 3, 4, 5, 6, 7, 8, 9, 10] rfl)
                    · exact J8  (ar_s hk6 (by first | exact fun _ => bI_nz.mp c_102 | exact fun z => absurd z (lt_le' (by decide) c_93) | exact fun z => absurd ((nI_ltI (by omega) (by omega)).mp z) (by omega))) ls (lv_sub hl [0, 1, 2, 3, 4, 5, 6, 7, 8, 9, 10] rfl)
                refine lv_iload_n hx hb dX6_addMore_75 rfl (lv_at hl 2 rfl) ?_
                refine lv_bipush (v := (nI 6)) hx hb dX6_addMore_76 (by decide +kernel) ?_
                refine ln_icmp_lt (tgt := 90) hx hb ⟨by omega, by omega⟩ dX6_addMore_78 (by decide) (fun c_78 => ?_) (fun c_78 => ?_)
                · exact J7  (ar_s hk5 (by first | exact fun _ => bI_nz.mp c_87 | exact fun z => absurd z (lt_le' (by decide) c_78) | exact fun z => absurd ((nI_ltI (by omega) (by omega)).mp z) (by omega))) ls (lv_sub hl [0, 1, 2, 3, 4, 5, 6, 7, 8, 9, 10] rfl)
                · refine lv_aload_n hx hb dX6_addMore_81 rfl (lv_at hl 0 rfl) ?_
                  refine lv_iload hx hb dX6_addMore_82 (lv_at hl 8 rfl) ?_
                  refine ro_V (As := [.int y5]) (rest := []) (wc := []) (r := .int (bI (byB y5))) ⟨hx, hb, hml, hown, hts⟩ (c_X6_isByte l D T g m0 y5) (cwV 1 hts gX6_addMore_X6_isByte rfl rfl rfl (by decide +kernel) ⟨Nat.le_of_ble_eq_true rfl, Nat.le_of_ble_eq_true rfl⟩) (va_recv hK hP (ci := 3) (q0 := 0) rfl rfl) hP hK hG hS [] rfl ⟨Nat.zero_le _, Nat.zero_le _⟩ rfl hl.1 (Nat.le_of_ble_eq_true rfl) dX6_addMore_84 rfl ?_
                  refine lv_if_eq (tgt := 124) hx hb dX6_addMore_87 (by decide) (fun c_87 => ?_) (fun c_87 => ?_)
                  · have hr9a : false = arB (nI m9) (gvN y0 y1 y2 y3 y4 y5 y6 y7) := (ar_n (k := 5) (by decide) (by first | exact lt_le (by decide) c_78 | exact nI_lt (by omega) (by omega)) (bI_z.mp c_87)).symm
                    refine lv_iconst (v := nI 0) hx hb dX6_addMore_124 (by decide +kernel) ?_
                    rw [show nI 0 = bI false from rfl]
                    exact J1 false (hr9a) ls (lv_sub hl [0, 1, 2, 3, 4, 5, 6, 7, 8, 9, 10] rfl)
                  · exact J7  (ar_s hk5 (by first | exact fun _ => bI_nz.mp c_87 | exact fun z => absurd z (lt_le' (by decide) c_78) | exact fun z => absurd ((nI_ltI (by omega) (by omega)).mp z) (by omega))) ls (lv_sub hl [0, 1, 2, 3, 4, 5, 6, 7, 8, 9, 10] rfl)
              refine lv_iload_n hx hb dX6_addMore_61 rfl (lv_at hl 2 rfl) ?_
              refine lv_iconst (v := (nI 5)) hx hb dX6_addMore_62 (by decide +kernel) ?_
              refine ln_icmp_lt (tgt := 75) hx hb ⟨by omega, by omega⟩ dX6_addMore_63 (by decide) (fun c_63 => ?_) (fun c_63 => ?_)
              · exact J6  (ar_s hk4 (by first | exact fun _ => bI_nz.mp c_72 | exact fun z => absurd z (lt_le' (by decide) c_63) | exact fun z => absurd ((nI_ltI (by omega) (by omega)).mp z) (by omega))) ls (lv_sub hl [0, 1, 2, 3, 4, 5, 6, 7, 8, 9, 10] rfl)
              · refine lv_aload_n hx hb dX6_addMore_66 rfl (lv_at hl 0 rfl) ?_
                refine lv_iload hx hb dX6_addMore_67 (lv_at hl 7 rfl) ?_
                refine ro_V (As := [.int y4]) (rest := []) (wc := []) (r := .int (bI (byB y4))) ⟨hx, hb, hml, hown, hts⟩ (c_X6_isByte l D T g m0 y4) (cwV 1 hts gX6_addMore_X6_isByte rfl rfl rfl (by decide +kernel) ⟨Nat.le_of_ble_eq_true rfl, Nat.le_of_ble_eq_true rfl⟩) (va_recv hK hP (ci := 3) (q0 := 0) rfl rfl) hP hK hG hS [] rfl ⟨Nat.zero_le _, Nat.zero_le _⟩ rfl hl.1 (Nat.le_of_ble_eq_true rfl) dX6_addMore_69 rfl ?_
                refine lv_if_eq (tgt := 124) hx hb dX6_addMore_72 (by decide) (fun c_72 => ?_) (fun c_72 => ?_)
                · have hr9a : false = arB (nI m9) (gvN y0 y1 y2 y3 y4 y5 y6 y7) := (ar_n (k := 4) (by decide) (by first | exact lt_le (by decide) c_63 | exact nI_lt (by omega) (by omega)) (bI_z.mp c_72)).symm
                  refine lv_iconst (v := nI 0) hx hb dX6_addMore_124 (by decide +kernel) ?_
                  rw [show nI 0 = bI false from rfl]
                  exact J1 false (hr9a) ls (lv_sub hl [0, 1, 2, 3, 4, 5, 6, 7, 8, 9, 10] rfl)
                · exact J6  (ar_s hk4 (by first | exact fun _ => bI_nz.mp c_72 | exact fun z => absurd z (lt_le' (by decide) c_63) | exact fun z => absurd ((nI_ltI (by omega) (by omega)).mp z) (by omega))) ls (lv_sub hl [0, 1, 2, 3, 4, 5, 6, 7, 8, 9, 10] rfl)
            refine lv_iload_n hx hb dX6_addMore_47 rfl (lv_at hl 2 rfl) ?_
            refine lv_iconst (v := (nI 4)) hx hb dX6_addMore_48 (by decide +kernel) ?_
            refine ln_icmp_lt (tgt := 61) hx hb ⟨by omega, by omega⟩ dX6_addMore_49 (by decide) (fun c_49 => ?_) (fun c_49 => ?_)
            · exact J5  (ar_s hk3 (by first | exact fun _ => bI_nz.mp c_58 | exact fun z => absurd z (lt_le' (by decide) c_49) | exact fun z => absurd ((nI_ltI (by omega) (by omega)).mp z) (by omega))) ls (lv_sub hl [0, 1, 2, 3, 4, 5, 6, 7, 8, 9, 10] rfl)
            · refine lv_aload_n hx hb dX6_addMore_52 rfl (lv_at hl 0 rfl) ?_
              refine lv_iload hx hb dX6_addMore_53 (lv_at hl 6 rfl) ?_
              refine ro_V (As := [.int y3]) (rest := []) (wc := []) (r := .int (bI (byB y3))) ⟨hx, hb, hml, hown, hts⟩ (c_X6_isByte l D T g m0 y3) (cwV 1 hts gX6_addMore_X6_isByte rfl rfl rfl (by decide +kernel) ⟨Nat.le_of_ble_eq_true rfl, Nat.le_of_ble_eq_true rfl⟩) (va_recv hK hP (ci := 3) (q0 := 0) rfl rfl) hP hK hG hS [] rfl ⟨Nat.zero_le _, Nat.zero_le _⟩ rfl hl.1 (Nat.le_of_ble_eq_true rfl) dX6_addMore_55 rfl ?_
              refine lv_if_eq (tgt := 124) hx hb dX6_addMore_58 (by decide) (fun c_58 => ?_) (fun c_58 => ?_)
              · have hr9a : false = arB (nI m9) (gvN y0 y1 y2 y3 y4 y5 y6 y7) := (ar_n (k := 3) (by decide) (by first | exact lt_le (by decide) c_49 | exact nI_lt (by omega) (by omega)) (bI_z.mp c_58)).symm
                refine lv_iconst (v := nI 0) hx hb dX6_addMore_124 (by decide +kernel) ?_
                rw [show nI 0 = bI false from rfl]
                exact J1 false (hr9a) ls (lv_sub hl [0, 1, 2, 3, 4, 5, 6, 7, 8, 9, 10] rfl)
              · exact J5  (ar_s hk3 (by first | exact fun _ => bI_nz.mp c_58 | exact fun z => absurd z (lt_le' (by decide) c_49) | exact fun z => absurd ((nI_ltI (by omega) (by omega)).mp z) (by omega))) ls (lv_sub hl [0, 1, 2, 3, 4, 5, 6, 7, 8, 9, 10] rfl)
          refine lv_iload_n hx hb dX6_addMore_33 rfl (lv_at hl 2 rfl) ?_
          refine lv_iconst (v := (nI 3)) hx hb dX6_addMore_34 (by decide +kernel) ?_
          refine ln_icmp_lt (tgt := 47) hx hb ⟨by omega, by omega⟩ dX6_addMore_35 (by decide) (fun c_35 => ?_) (fun c_35 => ?_)
          · exact J4  (ar_s hk2 (by first | exact fun _ => bI_nz.mp c_44 | exact fun z => absurd z (lt_le' (by decide) c_35) | exact fun z => absurd ((nI_ltI (by omega) (by omega)).mp z) (by omega))) ls (lv_sub hl [0, 1, 2, 3, 4, 5, 6, 7, 8, 9, 10] rfl)
          · refine lv_aload_n hx hb dX6_addMore_38 rfl (lv_at hl 0 rfl) ?_
            refine lv_iload hx hb dX6_addMore_39 (lv_at hl 5 rfl) ?_
            refine ro_V (As := [.int y2]) (rest := []) (wc := []) (r := .int (bI (byB y2))) ⟨hx, hb, hml, hown, hts⟩ (c_X6_isByte l D T g m0 y2) (cwV 1 hts gX6_addMore_X6_isByte rfl rfl rfl (by decide +kernel) ⟨Nat.le_of_ble_eq_true rfl, Nat.le_of_ble_eq_true rfl⟩) (va_recv hK hP (ci := 3) (q0 := 0) rfl rfl) hP hK hG hS [] rfl ⟨Nat.zero_le _, Nat.zero_le _⟩ rfl hl.1 (Nat.le_of_ble_eq_true rfl) dX6_addMore_41 rfl ?_
            refine lv_if_eq (tgt := 124) hx hb dX6_addMore_44 (by decide) (fun c_44 => ?_) (fun c_44 => ?_)
            · have hr9a : false = arB (nI m9) (gvN y0 y1 y2 y3 y4 y5 y6 y7) := (ar_n (k := 2) (by decide) (by first | exact lt_le (by decide) c_35 | exact nI_lt (by omega) (by omega)) (bI_z.mp c_44)).symm
              refine lv_iconst (v := nI 0) hx hb dX6_addMore_124 (by decide +kernel) ?_
              rw [show nI 0 = bI false from rfl]
              exact J1 false (hr9a) ls (lv_sub hl [0, 1, 2, 3, 4, 5, 6, 7, 8, 9, 10] rfl)
            · exact J4  (ar_s hk2 (by first | exact fun _ => bI_nz.mp c_44 | exact fun z => absurd z (lt_le' (by decide) c_35) | exact fun z => absurd ((nI_ltI (by omega) (by omega)).mp z) (by omega))) ls (lv_sub hl [0, 1, 2, 3, 4, 5, 6, 7, 8, 9, 10] rfl)
        refine lv_iload_n hx hb dX6_addMore_19 rfl (lv_at hl 2 rfl) ?_
        refine lv_iconst (v := (nI 2)) hx hb dX6_addMore_20 (by decide +kernel) ?_
        refine ln_icmp_lt (tgt := 33) hx hb ⟨by omega, by omega⟩ dX6_addMore_21 (by decide) (fun c_21 => ?_) (fun c_21 => ?_)
        · exact J3  (ar_s hk1 (by first | exact fun _ => bI_nz.mp c_30 | exact fun z => absurd z (lt_le' (by decide) c_21) | exact fun z => absurd ((nI_ltI (by omega) (by omega)).mp z) (by omega))) ls (lv_sub hl [0, 1, 2, 3, 4, 5, 6, 7, 8, 9, 10] rfl)
        · refine lv_aload_n hx hb dX6_addMore_24 rfl (lv_at hl 0 rfl) ?_
          refine lv_iload hx hb dX6_addMore_25 (lv_at hl 4 rfl) ?_
          refine ro_V (As := [.int y1]) (rest := []) (wc := []) (r := .int (bI (byB y1))) ⟨hx, hb, hml, hown, hts⟩ (c_X6_isByte l D T g m0 y1) (cwV 1 hts gX6_addMore_X6_isByte rfl rfl rfl (by decide +kernel) ⟨Nat.le_of_ble_eq_true rfl, Nat.le_of_ble_eq_true rfl⟩) (va_recv hK hP (ci := 3) (q0 := 0) rfl rfl) hP hK hG hS [] rfl ⟨Nat.zero_le _, Nat.zero_le _⟩ rfl hl.1 (Nat.le_of_ble_eq_true rfl) dX6_addMore_27 rfl ?_
          refine lv_if_eq (tgt := 124) hx hb dX6_addMore_30 (by decide) (fun c_30 => ?_) (fun c_30 => ?_)
          · have hr9a : false = arB (nI m9) (gvN y0 y1 y2 y3 y4 y5 y6 y7) := (ar_n (k := 1) (by decide) (by first | exact lt_le (by decide) c_21 | exact nI_lt (by omega) (by omega)) (bI_z.mp c_30)).symm
            refine lv_iconst (v := nI 0) hx hb dX6_addMore_124 (by decide +kernel) ?_
            rw [show nI 0 = bI false from rfl]
            exact J1 false (hr9a) ls (lv_sub hl [0, 1, 2, 3, 4, 5, 6, 7, 8, 9, 10] rfl)
          · exact J3  (ar_s hk1 (by first | exact fun _ => bI_nz.mp c_30 | exact fun z => absurd z (lt_le' (by decide) c_21) | exact fun z => absurd ((nI_ltI (by omega) (by omega)).mp z) (by omega))) ls (lv_sub hl [0, 1, 2, 3, 4, 5, 6, 7, 8, 9, 10] rfl)
set_option maxHeartbeats 4000000 in
set_option maxRecDepth 100000 in
theorem m_addMore_4 (l : Launch) (D : va_G) (T : Nat → ClassId) (g : Nat → Nat) (sz : Nat) (m0 : Nat) (mb : Nat) (ml : Nat) (mm : Nat) (mk : Nat) (many : Nat) (th : Int32) (fb : Nat → Int32) (fl : Nat → Int32) (fm : Nat → Int32) (fk : Nat → Int32) (N : Nat → Nat) (Bw : Nat → Nat → Nat) (hMR : MR fl fb N Bw) (i : Nat) (hi : i < 6) (m9 : Nat) (hm : 1 ≤ m9 ∧ m9 ≤ 8) (v : Nat → Nat) (y0 : Int32) (y1 : Int32) (y2 : Int32) (y3 : Int32) (y4 : Int32) (y5 : Int32) (y6 : Int32) (y7 : Int32) (hgd : ∀ j, j < m9 → (gvN y0 y1 y2 y3 y4 y5 y6 y7) j = nI (v j) ∧ v j < 256) (hf : 320 < N i + m9) : MU l yX6_addMore wsX6_addMore ({ frames := 62, cells := 0, slots := 0, locals := 3100 } : Room) D T g [.ref m0, .int (nI i), .int (nI m9), .int y0, .int y1, .int y2, .int y3, .int y4, .int y5, .int y6, .int y7] [(m0, .inr (3, [.ref mb, .ref ml, .ref mm, .int (nI many), .int th, .ref mk])), (mb, .inl (T 0, 1920, .inl fb)), (ml, .inl (T 0, 6, .inl fl)), (mm, .inl (T 0, 600, .inl fm)), (mk, .inl (T 0, 320, .inl fk))] sz (fun u : Nat × Int32 × (Nat → Int32) × (Nat → Int32) × (Nat → Int32) × (Nat → Int32) => some (.int (nI 0))) (fun u : Nat × Int32 × (Nat → Int32) × (Nat → Int32) × (Nat → Int32) × (Nat → Int32) => u.2.1 = nI 3 ∧ MR u.2.2.2.1 u.2.2.1 (N) (Bw)) (fun u : Nat × Int32 × (Nat → Int32) × (Nat → Int32) × (Nat → Int32) × (Nat → Int32) => [(m0, .inr (3, [.ref mb, .ref ml, .ref mm, .int (nI u.1), .int u.2.1, .ref mk])), (mb, .inl (T 0, 1920, .inl u.2.2.1)), (ml, .inl (T 0, 6, .inl u.2.2.2.1)), (mm, .inl (T 0, 600, .inl u.2.2.2.2.1)), (mk, .inl (T 0, 320, .inl u.2.2.2.2.2))]) 0 0 := by
  refine Met.ofW (cc := cX6_addMore) (maxL := 13) (ret := (some .int)) (by decide) rfl ?_
  intro p e s m args below meth c s₁ B hml hv
  obtain ⟨rfl, hsz, hP, hK, hD0, hG⟩ := hv
  have hx := B.exec
  have hb := B.bytes
  have hr := B.returns
  have hts := atoms_spec (ws := wsX6_addMore) B.pre
  have hown : s.vm.findClass RX6 = some m.cls := findClass_of_methodNamed B.named
  have hlocks := B.notSynchronized
  have hi_X6 : ∀ w ∈ wsX60, w ∈ wsX6_addMore := by decide +kernel
  subst hsz
  have hD := hD0.self (sz := s.heap.size)
  generalize hAe : va_A [(m0, .inr (3, [.ref mb, .ref ml, .ref mm, .int (nI many), .int th, .ref mk])), (mb, .inl (T 0, 1920, .inl fb)), (ml, .inl (T 0, 6, .inl fl)), (mm, .inl (T 0, 600, .inl fm)), (mk, .inl (T 0, 320, .inl fk))] s.heap.size = A at hD hG ⊢
  have hA : ∀ q : Nat, s.heap.size ≤ q → A q := fun q h => by rw [← hAe]; exact Or.inr h
  have hS : va_S A s.heap s.heap [] := va_S.rf
  have hP : va_P D cls [(m0, .inr (3, [.ref mb, .ref ml, .ref mm, .int (nI many), .int th, .ref mk])), (mb, .inl (T 0, 1920, .inl fb)), (ml, .inl (T 0, 6, .inl fl)), (mm, .inl (T 0, 600, .inl fm)), (mk, .inl (T 0, 320, .inl fk))] s.heap := hP
  have hl := lv_entry ([.ref m0, .int (nI i), .int (nI m9), .int y0, .int y1, .int y2, .int y3, .int y4, .int y5, .int y6, .int y7]) (n := 13) (Nat.le_of_ble_eq_true rfl)
  rw [lg_entry_eq]
  generalize (lg_sl ([.ref m0, .int (nI i), .int (nI m9), .int y0, .int y1, .int y2, .int y3, .int y4, .int y5, .int y6, .int y7]) ++ List.replicate (13 - (lg_sl ([.ref m0, .int (nI i), .int (nI m9), .int y0, .int y1, .int y2, .int y3, .int y4, .int y5, .int y6, .int y7])).length) Slot.unset).toArray = ls at hl ⊢
  have hl : lv_has ls 13 [(0, .ref m0), (1, .int (nI i)), (2, .int (nI m9)), (3, .int y0), (4, .int y1), (5, .int y2), (6, .int y3), (7, .int y4), (8, .int y5), (9, .int y6), (10, .int y7)] := hl
  have hrow := hMR i hi
  have hn := hrow.2.1
  have J1 : ∀ (r9 : Bool), (r9 = arB (nI m9) (gvN y0 y1 y2 y3 y4 y5 y6 y7)) → ∀ ls : Array Slot, lv_has ls 13 [(0, .ref m0), (1, .int (nI i)), (2, .int (nI m9)), (3, .int y0), (4, .int y1), (5, .int y2), (6, .int y3), (7, .int y4), (8, .int y5), (9, .int y6), (10, .int y7)] → W p l e (headSpec wsX6_addMore ({ frames := 62, cells := 0, slots := 0, locals := 3100 } : Room)).room s m ([.ref m0, .int (nI i), .int (nI m9), .int y0, .int y1, .int y2, .int y3, .int y4, .int y5, .int y6, .int y7] : List Value).toArray below meth c s.heap [] 0 0 (MQ below (QM D T A (fun u : Nat × Int32 × (Nat → Int32) × (Nat → Int32) × (Nat → Int32) × (Nat → Int32) => some (.int (nI 0))) (fun u : Nat × Int32 × (Nat → Int32) × (Nat → Int32) × (Nat → Int32) × (Nat → Int32) => u.2.1 = nI 3 ∧ MR u.2.2.2.1 u.2.2.1 (N) (Bw)) (fun u : Nat × Int32 × (Nat → Int32) × (Nat → Int32) × (Nat → Int32) × (Nat → Int32) => [(m0, .inr (3, [.ref mb, .ref ml, .ref mm, .int (nI u.1), .int u.2.1, .ref mk])), (mb, .inl (T 0, 1920, .inl u.2.2.1)), (ml, .inl (T 0, 6, .inl u.2.2.2.1)), (mm, .inl (T 0, 600, .inl u.2.2.2.2.1)), (mk, .inl (T 0, 320, .inl u.2.2.2.2.2))])) ([.ref m0, .int (nI i), .int (nI m9), .int y0, .int y1, .int y2, .int y3, .int y4, .int y5, .int y6, .int y7] : List Value).toArray s 0 0 A) (F0 m 125 ls [.int (bI r9)]) := by
    intro r9 hr9 ls hl
    refine lv_istore (lv' := [(11, .int (bI r9)), (0, .ref m0), (1, .int (nI i)), (2, .int (nI m9)), (3, .int y0), (4, .int y1), (5, .int y2), (6, .int y3), (7, .int y4), (8, .int y5), (9, .int y6), (10, .int y7)]) hx hb dX6_addMore_125 hl (by decide) rfl (fun ls hl => ?_)
    have hr8 : r9 = true := hr9.trans (ar_y hm hgd)
    rw [hr8] at hl
    refine lv_aload_n hx hb dX6_addMore_127 rfl (lv_at hl 1 rfl) ?_
    refine lv_aload_n hx hb dX6_addMore_128 rfl (lv_at hl 1 rfl) ?_
    refine lv_iload_n hx hb dX6_addMore_129 rfl (lv_at hl 2 rfl) ?_
    refine ro_V (As := [.int (nI i)]) (rest := [.ref m0]) (wc := []) (r := .int (nI 1)) ⟨hx, hb, hml, hown, hts⟩ (c_X6_isRow_y l D T g m0 i (by omega)) (cwV 1 hts gX6_addMore_X6_isRow rfl rfl rfl (by decide +kernel) ⟨Nat.le_of_ble_eq_true rfl, Nat.le_of_ble_eq_true rfl⟩) (va_recv hK hP (ci := 3) (q0 := 0) rfl rfl) hP hK hG hS [] rfl ⟨Nat.zero_le _, Nat.zero_le _⟩ rfl hl.1 (Nat.le_of_ble_eq_true rfl) dX6_addMore_130 rfl ?_
    refine ln_if_ne_t (tgt := 140) hx hb (by omega) (by decide) dX6_addMore_133 (by decide) ?_
    refine lv_iload hx hb dX6_addMore_140 (lv_at hl 0 rfl) ?_
    refine lv_if_ne (tgt := 149) hx hb dX6_addMore_142 (by decide) (fun _ => ?_) (fun q9 => absurd q9 (by decide))
    refine lv_aload_n hx hb dX6_addMore_149 rfl (lv_at hl 1 rfl) ?_
    refine va_get (D := D) (ci := 3) (v := .ref ml) (C := RX6) (T := TX6) (N := 6) hx hb hts hi_X6 hown hK hP 0 rfl rfl 1 (by decide) (hts _ (List.mem_of_getElem? (i := 1) rfl)) (fun _ h9 => h9) rfl dX6_addMore_150 ?_
    refine lv_iload_n hx hb dX6_addMore_153 rfl (lv_at hl 2 rfl) ?_
    refine ln_iald hx hb hK hP 2 0 rfl rfl ⟨by omega, by omega⟩ dX6_addMore_154 ?_
    rw [show fl i = nI (N i) from hrow.1]
    refine lv_iload_n hx hb dX6_addMore_155 rfl (lv_at hl 3 rfl) ?_
    refine ln_add hx hb dX6_addMore_156 ?_
    refine lv_sipush (v := (nI 320)) hx hb dX6_addMore_157 (by decide +kernel) ?_
    refine ln_icmp_le_f (tgt := 167) hx hb ⟨by omega, by omega⟩ (by omega) dX6_addMore_160 (by decide) ?_
    refine lv_iconst (v := (nI 3)) hx hb dX6_addMore_163 (by decide +kernel) ?_
    refine lv_goto (tgt := 168) hx hb dX6_addMore_164 (by decide) ?_
    refine mu_V (As := [.int (nI 3)]) (rest := []) (wc := [(m0, .inr (3, [.ref mb, .ref ml, .ref mm, .int (nI many), .int th, .ref mk]))]) (wr := [(mb, .inl (T 0, 1920, .inl fb)), (ml, .inl (T 0, 6, .inl fl)), (mm, .inl (T 0, 600, .inl fm)), (mk, .inl (T 0, 320, .inl fk))]) ⟨hx, hb, hml, hown, hts⟩ (c_X6_isWrong_p l D T g s.heap.size m0 mb ml mm mk many th 3 (by omega)) (cwV 1 hts gX6_addMore_X6_isWrong rfl rfl rfl (by decide +kernel) ⟨Nat.le_of_ble_eq_true rfl, Nat.le_of_ble_eq_true rfl⟩) (va_recv hK hP (ci := 3) (q0 := 0) rfl rfl) hP hD hK hG hS hA [0] [1, 2, 3, 4] rfl (by decide) rfl (by decide) (by decide) ⟨Nat.le_of_ble_eq_true rfl, Nat.le_of_ble_eq_true rfl⟩ rfl hl.1 (Nat.le_of_ble_eq_true rfl) dX6_addMore_168 rfl (fun u H locs hq2 hP hD hS => ?_)
    have hP : va_P D cls [(mb, .inl (T 0, 1920, .inl fb)), (ml, .inl (T 0, 6, .inl fl)), (mm, .inl (T 0, 600, .inl fm)), (mk, .inl (T 0, 320, .inl fk)), (m0, .inr (3, [.ref mb, .ref ml, .ref mm, .int (nI many), .int (nI 3), .ref mk]))] H := hP
    have hD : va_D A [(mb, .inl (T 0, 1920, .inl fb)), (ml, .inl (T 0, 6, .inl fl)), (mm, .inl (T 0, 600, .inl fm)), (mk, .inl (T 0, 320, .inl fk)), (m0, .inr (3, [.ref mb, .ref ml, .ref mm, .int (nI many), .int (nI 3), .ref mk]))] := hD
    refine W.eq (g2 := F0 m 171 ls [.int (nI 1)]) rfl ?_
    refine ln_if_eq_f (tgt := 176) hx hb (by omega) (by decide) dX6_addMore_171 (by decide) ?_
    refine lv_iconst (v := (nI 0)) hx hb dX6_addMore_174 (by decide +kernel) ?_
    have hP9 := hP.sub (ws' := [(m0, .inr (3, [.ref mb, .ref ml, .ref mm, .int (nI many), .int (nI 3), .ref mk])), (mb, .inl (T 0, 1920, .inl fb)), (ml, .inl (T 0, 6, .inl fl)), (mm, .inl (T 0, 600, .inl fm)), (mk, .inl (T 0, 320, .inl fk))]) [4, 0, 1, 2, 3] rfl
    have hD9 := hD.sub (ws' := [(m0, .inr (3, [.ref mb, .ref ml, .ref mm, .int (nI many), .int (nI 3), .ref mk])), (mb, .inl (T 0, 1920, .inl fb)), (ml, .inl (T 0, 6, .inl fl)), (mm, .inl (T 0, 600, .inl fm)), (mk, .inl (T 0, 320, .inl fk))]) [4, 0, 1, 2, 3] (by decide) rfl
    exact W.iret (v := (nI 0)) hx hb hr (fun t ht hW => ⟨⟨(many, (nI 3), fb, fl, fm, fk), rfl, show (nI 3) = nI 3 ∧ MR fl fb (N) (Bw) from ⟨rfl, hMR⟩, (by rw [ht]; exact hP9), va_K.moved hW.alike hK, hD9⟩, hS.F ht⟩) hS.2.2 dX6_addMore_175
  refine lv_iconst (v := (nI 1)) hx hb dX6_addMore_0 (by decide +kernel) ?_
  refine lv_iload_n hx hb dX6_addMore_1 rfl (lv_at hl 2 rfl) ?_
  refine ln_icmp_gt (tgt := 124) hx hb ⟨by omega, by omega⟩ dX6_addMore_2 (by decide) (fun c_2 => ?_) (fun c_2 => ?_)
  · have hr9a : false = arB (nI m9) (gvN y0 y1 y2 y3 y4 y5 y6 y7) := (ar_m (Or.inl (by first | exact c_2 | exact nI_lt (by omega) (by omega)))).symm
    refine lv_iconst (v := nI 0) hx hb dX6_addMore_124 (by decide +kernel) ?_
    rw [show nI 0 = bI false from rfl]
    exact J1 false (hr9a) ls (lv_sub hl [0, 1, 2, 3, 4, 5, 6, 7, 8, 9, 10] rfl)
  · refine lv_iload_n hx hb dX6_addMore_5 rfl (lv_at hl 2 rfl) ?_
    refine lv_bipush (v := (nI 8)) hx hb dX6_addMore_6 (by decide +kernel) ?_
    refine ln_icmp_gt (tgt := 124) hx hb ⟨by omega, by omega⟩ dX6_addMore_8 (by decide) (fun c_8 => ?_) (fun c_8 => ?_)
    · have hr9a : false = arB (nI m9) (gvN y0 y1 y2 y3 y4 y5 y6 y7) := (ar_m (Or.inr (by first | exact Int32.not_le.mpr c_8 | exact nI_ge (by omega) (by omega)))).symm
      refine lv_iconst (v := nI 0) hx hb dX6_addMore_124 (by decide +kernel) ?_
      rw [show nI 0 = bI false from rfl]
      exact J1 false (hr9a) ls (lv_sub hl [0, 1, 2, 3, 4, 5, 6, 7, 8, 9, 10] rfl)
    · have hge : nI 1 ≤ (nI m9) := nI_le (by omega) (by omega)
      refine lv_aload_n hx hb dX6_addMore_11 rfl (lv_at hl 0 rfl) ?_
      refine lv_iload_n hx hb dX6_addMore_12 rfl (lv_at hl 3 rfl) ?_
      refine ro_V (As := [.int y0]) (rest := []) (wc := []) (r := .int (bI (byB y0))) ⟨hx, hb, hml, hown, hts⟩ (c_X6_isByte l D T g m0 y0) (cwV 1 hts gX6_addMore_X6_isByte rfl rfl rfl (by decide +kernel) ⟨Nat.le_of_ble_eq_true rfl, Nat.le_of_ble_eq_true rfl⟩) (va_recv hK hP (ci := 3) (q0 := 0) rfl rfl) hP hK hG hS [] rfl ⟨Nat.zero_le _, Nat.zero_le _⟩ rfl hl.1 (Nat.le_of_ble_eq_true rfl) dX6_addMore_13 rfl ?_
      refine lv_if_eq (tgt := 124) hx hb dX6_addMore_16 (by decide) (fun c_16 => ?_) (fun c_16 => ?_)
      · have hr9a : false = arB (nI m9) (gvN y0 y1 y2 y3 y4 y5 y6 y7) := (ar_n (k := 0) (by decide) (lt_le (by decide) (fun z => Int32.not_le.mpr z hge)) (bI_z.mp c_16)).symm
        refine lv_iconst (v := nI 0) hx hb dX6_addMore_124 (by decide +kernel) ?_
        rw [show nI 0 = bI false from rfl]
        exact J1 false (hr9a) ls (lv_sub hl [0, 1, 2, 3, 4, 5, 6, 7, 8, 9, 10] rfl)
      · have hk1 : ∀ j, j < 1 → nI j < (nI m9) → byB (gvN y0 y1 y2 y3 y4 y5 y6 y7 j) = true := fun j hj _ => by have e : j = 0 := (by omega); subst e; exact bI_nz.mp c_16
        have J3 : (∀ j, j < 2 → nI j < (nI m9) → byB (gvN y0 y1 y2 y3 y4 y5 y6 y7 j) = true) → ∀ ls : Array Slot, lv_has ls 13 [(0, .ref m0), (1, .int (nI i)), (2, .int (nI m9)), (3, .int y0), (4, .int y1), (5, .int y2), (6, .int y3), (7, .int y4), (8, .int y5), (9, .int y6), (10, .int y7)] → W p l e (headSpec wsX6_addMore ({ frames := 62, cells := 0, slots := 0, locals := 3100 } : Room)).room s m ([.ref m0, .int (nI i), .int (nI m9), .int y0, .int y1, .int y2, .int y3, .int y4, .int y5, .int y6, .int y7] : List Value).toArray below meth c s.heap [] 0 0 (MQ below (QM D T A (fun u : Nat × Int32 × (Nat → Int32) × (Nat → Int32) × (Nat → Int32) × (Nat → Int32) => some (.int (nI 0))) (fun u : Nat × Int32 × (Nat → Int32) × (Nat → Int32) × (Nat → Int32) × (Nat → Int32) => u.2.1 = nI 3 ∧ MR u.2.2.2.1 u.2.2.1 (N) (Bw)) (fun u : Nat × Int32 × (Nat → Int32) × (Nat → Int32) × (Nat → Int32) × (Nat → Int32) => [(m0, .inr (3, [.ref mb, .ref ml, .ref mm, .int (nI u.1), .int u.2.1, .ref mk])), (mb, .inl (T 0, 1920, .inl u.2.2.1)), (ml, .inl (T 0, 6, .inl u.2.2.2.1)), (mm, .inl (T 0, 600, .inl u.2.2.2.2.1)), (mk, .inl (T 0, 320, .inl u.2.2.2.2.2))])) ([.ref m0, .int (nI i), .int (nI m9), .int y0, .int y1, .int y2, .int y3, .int y4, .int y5, .int y6, .int y7] : List Value).toArray s 0 0 A) (F0 m 33 ls []) := by
          intro  hk2 ls hl
          have J4 : (∀ j, j < 3 → nI j < (nI m9) → byB (gvN y0 y1 y2 y3 y4 y5 y6 y7 j) = true) → ∀ ls : Array Slot, lv_has ls 13 [(0, .ref m0), (1, .int (nI i)), (2, .int (nI m9)), (3, .int y0), (4, .int y1), (5, .int y2), (6, .int y3), (7, .int y4), (8, .int y5), (9, .int y6), (10, .int y7)] → W p l e (headSpec wsX6_addMore ({ frames := 62, cells := 0, slots := 0, locals := 3100 } : Room)).room s m ([.ref m0, .int (nI i), .int (nI m9), .int y0, .int y1, .int y2, .int y3, .int y4, .int y5, .int y6, .int y7] : List Value).toArray below meth c s.heap [] 0 0 (MQ below (QM D T A (fun u : Nat × Int32 × (Nat → Int32) × (Nat → Int32) × (Nat → Int32) × (Nat → Int32) => some (.int (nI 0))) (fun u : Nat × Int32 × (Nat → Int32) × (Nat → Int32) × (Nat → Int32) × (Nat → Int32) => u.2.1 = nI 3 ∧ MR u.2.2.2.1 u.2.2.1 (N) (Bw)) (fun u : Nat × Int32 × (Nat → Int32) × (Nat → Int32) × (Nat → Int32) × (Nat → Int32) => [(m0, .inr (3, [.ref mb, .ref ml, .ref mm, .int (nI u.1), .int u.2.1, .ref mk])), (mb, .inl (T 0, 1920, .inl u.2.2.1)), (ml, .inl (T 0, 6, .inl u.2.2.2.1)), (mm, .inl (T 0, 600, .inl u.2.2.2.2.1)), (mk, .inl (T 0, 320, .inl u.2.2.2.2.2))])) ([.ref m0, .int (nI i), .int (nI m9), .int y0, .int y1, .int y2, .int y3, .int y4, .int y5, .int y6, .int y7] : List Value).toArray s 0 0 A) (F0 m 47 ls []) := by
            intro  hk3 ls hl
            have J5 : (∀ j, j < 4 → nI j < (nI m9) → byB (gvN y0 y1 y2 y3 y4 y5 y6 y7 j) = true) → ∀ ls : Array Slot, lv_has ls 13 [(0, .ref m0), (1, .int (nI i)), (2, .int (nI m9)), (3, .int y0), (4, .int y1), (5, .int y2), (6, .int y3), (7, .int y4), (8, .int y5), (9, .int y6), (10, .int y7)] → W p l e (headSpec wsX6_addMore ({ frames := 62, cells := 0, slots := 0, locals := 3100 } : Room)).room s m ([.ref m0, .int (nI i), .int (nI m9), .int y0, .int y1, .int y2, .int y3, .int y4, .int y5, .int y6, .int y7] : List Value).toArray below meth c s.heap [] 0 0 (MQ below (QM D T A (fun u : Nat × Int32 × (Nat → Int32) × (Nat → Int32) × (Nat → Int32) × (Nat → Int32) => some (.int (nI 0))) (fun u : Nat × Int32 × (Nat → Int32) × (Nat → Int32) × (Nat → Int32) × (Nat → Int32) => u.2.1 = nI 3 ∧ MR u.2.2.2.1 u.2.2.1 (N) (Bw)) (fun u : Nat × Int32 × (Nat → Int32) × (Nat → Int32) × (Nat → Int32) × (Nat → Int32) => [(m0, .inr (3, [.ref mb, .ref ml, .ref mm, .int (nI u.1), .int u.2.1, .ref mk])), (mb, .inl (T 0, 1920, .inl u.2.2.1)), (ml, .inl (T 0, 6, .inl u.2.2.2.1)), (mm, .inl (T 0, 600, .inl u.2.2.2.2.1)), (mk, .inl (T 0, 320, .inl u.2.2.2.2.2))])) ([.ref m0, .int (nI i), .int (nI m9), .int y0, .int y1, .int y2, .int y3, .int y4, .int y5, .int y6, .int y7] : List Value).toArray s 0 0 A) (F0 m 61 ls []) := by
              intro  hk4 ls hl
              have J6 : (∀ j, j < 5 → nI j < (nI m9) → byB (gvN y0 y1 y2 y3 y4 y5 y6 y7 j) = true) → ∀ ls : Array Slot, lv_has ls 13 [(0, .ref m0), (1, .int (nI i)), (2, .int (nI m9)), (3, .int y0), (4, .int y1), (5, .int y2), (6, .int y3), (7, .int y4), (8, .int y5), (9, .int y6), (10, .int y7)] → W p l e (headSpec wsX6_addMore ({ frames := 62, cells := 0, slots := 0, locals := 3100 } : Room)).room s m ([.ref m0, .int (nI i), .int (nI m9), .int y0, .int y1, .int y2, .int y3, .int y4, .int y5, .int y6, .int y7] : List Value).toArray below meth c s.heap [] 0 0 (MQ below (QM D T A (fun u : Nat × Int32 × (Nat → Int32) × (Nat → Int32) × (Nat → Int32) × (Nat → Int32) => some (.int (nI 0))) (fun u : Nat × Int32 × (Nat → Int32) × (Nat → Int32) × (Nat → Int32) × (Nat → Int32) => u.2.1 = nI 3 ∧ MR u.2.2.2.1 u.2.2.1 (N) (Bw)) (fun u : Nat × Int32 × (Nat → Int32) × (Nat → Int32) × (Nat → Int32) × (Nat → Int32) => [(m0, .inr (3, [.ref mb, .ref ml, .ref mm, .int (nI u.1), .int u.2.1, .ref mk])), (mb, .inl (T 0, 1920, .inl u.2.2.1)), (ml, .inl (T 0, 6, .inl u.2.2.2.1)), (mm, .inl (T 0, 600, .inl u.2.2.2.2.1)), (mk, .inl (T 0, 320, .inl u.2.2.2.2.2))])) ([.ref m0, .int (nI i), .int (nI m9), .int y0, .int y1, .int y2, .int y3, .int y4, .int y5, .int y6, .int y7] : List Value).toArray s 0 0 A) (F0 m 75 ls []) := by
                intro  hk5 ls hl
                have J7 : (∀ j, j < 6 → nI j < (nI m9) → byB (gvN y0 y1 y2 y3 y4 y5 y6 y7 j) = true) → ∀ ls : Array Slot, lv_has ls 13 [(0, .ref m0), (1, .int (nI i)), (2, .int (nI m9)), (3, .int y0), (4, .int y1), (5, .int y2), (6, .int y3), (7, .int y4), (8, .int y5), (9, .int y6), (10, .int y7)] → W p l e (headSpec wsX6_addMore ({ frames := 62, cells := 0, slots := 0, locals := 3100 } : Room)).room s m ([.ref m0, .int (nI i), .int (nI m9), .int y0, .int y1, .int y2, .int y3, .int y4, .int y5, .int y6, .int y7] : List Value).toArray below meth c s.heap [] 0 0 (MQ below (QM D T A (fun u : Nat × Int32 × (Nat → Int32) × (Nat → Int32) × (Nat → Int32) × (Nat → Int32) => some (.int (nI 0))) (fun u : Nat × Int32 × (Nat → Int32) × (Nat → Int32) × (Nat → Int32) × (Nat → Int32) => u.2.1 = nI 3 ∧ MR u.2.2.2.1 u.2.2.1 (N) (Bw)) (fun u : Nat × Int32 × (Nat → Int32) × (Nat → Int32) × (Nat → Int32) × (Nat → Int32) => [(m0, .inr (3, [.ref mb, .ref ml, .ref mm, .int (nI u.1), .int u.2.1, .ref mk])), (mb, .inl (T 0, 1920, .inl u.2.2.1)), (ml, .inl (T 0, 6, .inl u.2.2.2.1)), (mm, .inl (T 0, 600, .inl u.2.2.2.2.1)), (mk, .inl (T 0, 320, .inl u.2.2.2.2.2))])) ([.ref m0, .int (nI i), .int (nI m9), .int y0, .int y1, .int y2, .int y3, .int y4, .int y5, .int y6, .int y7] : List Value).toArray s 0 0 A) (F0 m 90 ls []) := by
                  intro  hk6 ls hl
                  have J8 : (∀ j, j < 7 → nI j < (nI m9) → byB (gvN y0 y1 y2 y3 y4 y5 y6 y7 j) = true) → ∀ ls : Array Slot, lv_has ls 13 [(0, .ref m0), (1, .int (nI i)), (2, .int (nI m9)), (3, .int y0), (4, .int y1), (5, .int y2), (6, .int y3), (7, .int y4), (8, .int y5), (9, .int y6), (10, .int y7)] → W p l e (headSpec wsX6_addMore ({ frames := 62, cells := 0, slots := 0, locals := 3100 } : Room)).room s m ([.ref m0, .int (nI i), .int (nI m9), .int y0, .int y1, .int y2, .int y3, .int y4, .int y5, .int y6, .int y7] : List Value).toArray below meth c s.heap [] 0 0 (MQ below (QM D T A (fun u : Nat × Int32 × (Nat → Int32) × (Nat → Int32) × (Nat → Int32) × (Nat → Int32) => some (.int (nI 0))) (fun u : Nat × Int32 × (Nat → Int32) × (Nat → Int32) × (Nat → Int32) × (Nat → Int32) => u.2.1 = nI 3 ∧ MR u.2.2.2.1 u.2.2.1 (N) (Bw)) (fun u : Nat × Int32 × (Nat → Int32) × (Nat → Int32) × (Nat → Int32) × (Nat → Int32) => [(m0, .inr (3, [.ref mb, .ref ml, .ref mm, .int (nI u.1), .int u.2.1, .ref mk])), (mb, .inl (T 0, 1920, .inl u.2.2.1)), (ml, .inl (T 0, 6, .inl u.2.2.2.1)), (mm, .inl (T 0, 600, .inl u.2.2.2.2.1)), (mk, .inl (T 0, 320, .inl u.2.2.2.2.2))])) ([.ref m0, .int (nI i), .int (nI m9), .int y0, .int y1, .int y2, .int y3, .int y4, .int y5, .int y6, .int y7] : List Value).toArray s 0 0 A) (F0 m 105 ls []) := by
                    intro  hk7 ls hl
                    have J9 : (∀ j, j < 8 → nI j < (nI m9) → byB (gvN y0 y1 y2 y3 y4 y5 y6 y7 j) = true) → ∀ ls : Array Slot, lv_has ls 13 [(0, .ref m0), (1, .int (nI i)), (2, .int (nI m9)), (3, .int y0), (4, .int y1), (5, .int y2), (6, .int y3), (7, .int y4), (8, .int y5), (9, .int y6), (10, .int y7)] → W p l e (headSpec wsX6_addMore ({ frames := 62, cells := 0, slots := 0, locals := 3100 } : Room)).room s m ([.ref m0, .int (nI i), .int (nI m9), .int y0, .int y1, .int y2, .int y3, .int y4, .int y5, .int y6, .int y7] : List Value).toArray below meth c s.heap [] 0 0 (MQ below (QM D T A (fun u : Nat × Int32 × (Nat → Int32) × (Nat → Int32) × (Nat → Int32) × (Nat → Int32) => some (.int (nI 0))) (fun u : Nat × Int32 × (Nat → Int32) × (Nat → Int32) × (Nat → Int32) × (Nat → Int32) => u.2.1 = nI 3 ∧ MR u.2.2.2.1 u.2.2.1 (N) (Bw)) (fun u : Nat × Int32 × (Nat → Int32) × (Nat → Int32) × (Nat → Int32) × (Nat → Int32) => [(m0, .inr (3, [.ref mb, .ref ml, .ref mm, .int (nI u.1), .int u.2.1, .ref mk])), (mb, .inl (T 0, 1920, .inl u.2.2.1)), (ml, .inl (T 0, 6, .inl u.2.2.2.1)), (mm, .inl (T 0, 600, .inl u.2.2.2.2.1)), (mk, .inl (T 0, 320, .inl u.2.2.2.2.2))])) ([.ref m0, .int (nI i), .int (nI m9), .int y0, .int y1, .int y2, .int y3, .int y4, .int y5, .int y6, .int y7] : List Value).toArray s 0 0 A) (F0 m 120 ls []) := by
                      intro  hk8 ls hl
                      have hr9a : true = arB (nI m9) (gvN y0 y1 y2 y3 y4 y5 y6 y7) := (@decide_eq_true _ (Classical.propDecidable _) ⟨hge, nI_le (by omega) (by decide), hk8⟩).symm
                      refine lv_iconst (v := (nI 1)) hx hb dX6_addMore_120 (by decide +kernel) ?_
                      refine lv_goto (tgt := 125) hx hb dX6_addMore_121 (by decide) ?_
                      rw [show nI 1 = bI true from rfl]
                      exact J1 true (hr9a) ls (lv_sub hl [0, 1, 2, 3, 4, 5, 6, 7, 8, 9, 10] rfl)
                    refine lv_iload_n hx hb dX6_addMore_105 rfl (lv_at hl 2 rfl) ?_
                    refine lv_bipush (v := (nI 8)) hx hb dX6_addMore_106 (by decide +kernel) ?_
                    refine ln_icmp_lt (tgt := 120) hx hb ⟨by omega, by omega⟩ dX6_addMore_108 (by decide) (fun c_108 => ?_) (fun c_108 => ?_)
                    · exact J9  (ar_s hk7 (by first | exact fun _ => bI_nz.mp c_117 | exact fun z => absurd z (lt_le' (by decide) c_108) | exact fun z => absurd ((nI_ltI (by omega) (by omega)).mp z) (by omega))) ls (lv_sub hl [0, 1, 2, 3, 4, 5, 6, 7, 8, 9, 10] rfl)
                    · refine lv_aload_n hx hb dX6_addMore_111 rfl (lv_at hl 0 rfl) ?_
                      refine lv_iload hx hb dX6_addMore_112 (lv_at hl 10 rfl) ?_
                      refine ro_V (As := [.int y7]) (rest := []) (wc := []) (r := .int (bI (byB y7))) ⟨hx, hb, hml, hown, hts⟩ (c_X6_isByte l D T g m0 y7) (cwV 1 hts gX6_addMore_X6_isByte rfl rfl rfl (by decide +kernel) ⟨Nat.le_of_ble_eq_true rfl, Nat.le_of_ble_eq_true rfl⟩) (va_recv hK hP (ci := 3) (q0 := 0) rfl rfl) hP hK hG hS [] rfl ⟨Nat.zero_le _, Nat.zero_le _⟩ rfl hl.1 (Nat.le_of_ble_eq_true rfl) dX6_addMore_114 rfl ?_
                      refine lv_if_eq (tgt := 124) hx hb dX6_addMore_117 (by decide) (fun c_117 => ?_) (fun c_117 => ?_)
                      · have hr9a : false = arB (nI m9) (gvN y0 y1 y2 y3 y4 y5 y6 y7) := (ar_n (k := 7) (by decide) (by first | exact lt_le (by decide) c_108 | exact nI_lt (by omega) (by omega)) (bI_z.mp c_117)).symm
                        refine lv_iconst (v := nI 0) hx hb dX6_addMore_124 (by decide +kernel) ?_
                        rw [show nI 0 = bI false from rfl]
                        exact J1 false (hr9a) ls (lv_sub hl [0, 1, 2, 3, 4, 5, 6, 7, 8, 9, 10] rfl)
                      · exact J9  (ar_s hk7 (by first | exact fun _ => bI_nz.mp c_117 | exact fun z => absurd z (lt_le' (by decide) c_108) | exact fun z => absurd ((nI_ltI (by omega) (by omega)).mp z) (by omega))) ls (lv_sub hl [0, 1, 2, 3, 4, 5, 6, 7, 8, 9, 10] rfl)
                  refine lv_iload_n hx hb dX6_addMore_90 rfl (lv_at hl 2 rfl) ?_
                  refine lv_bipush (v := (nI 7)) hx hb dX6_addMore_91 (by decide +kernel) ?_
                  refine ln_icmp_lt (tgt := 105) hx hb ⟨by omega, by omega⟩ dX6_addMore_93 (by decide) (fun c_93 => ?_) (fun c_93 => ?_)
                  · exact J8  (ar_s hk6 (by first | exact fun _ => bI_nz.mp c_102 | exact fun z => absurd z (lt_le' (by decide) c_93) | exact fun z => absurd ((nI_ltI (by omega) (by omega)).mp z) (by omega))) ls (lv_sub hl [0, 1, 2, 3, 4, 5, 6, 7, 8, 9, 10] rfl)
                  · refine lv_aload_n hx hb dX6_addMore_96 rfl (lv_at hl 0 rfl) ?_
                    refine lv_iload hx hb dX6_addMore_97 (lv_at hl 9 rfl) ?_
                    refine ro_V (As := [.int y6]) (rest := []) (wc := []) (r := .int (bI (byB y6))) ⟨hx, hb, hml, hown, hts⟩ (c_X6_isByte l D T g m0 y6) (cwV 1 hts gX6_addMore_X6_isByte rfl rfl rfl (by decide +kernel) ⟨Nat.le_of_ble_eq_true rfl, Nat.le_of_ble_eq_true rfl⟩) (va_recv hK hP (ci := 3) (q0 := 0) rfl rfl) hP hK hG hS [] rfl ⟨Nat.zero_le _, Nat.zero_le _⟩ rfl hl.1 (Nat.le_of_ble_eq_true rfl) dX6_addMore_99 rfl ?_
                    refine lv_if_eq (tgt := 124) hx hb dX6_addMore_102 (by decide) (fun c_102 => ?_) (fun c_102 => ?_)
                    · have hr9a : false = arB (nI m9) (gvN y0 y1 y2 y3 y4 y5 y6 y7) := (ar_n (k := 6) (by decide) (by first | exact lt_le (by decide) c_93 | exact nI_lt (by omega) (by omega)) (bI_z.mp c_102)).symm
                      refine lv_iconst (v := nI 0) hx hb dX6_addMore_124 (by decide +kernel) ?_
                      rw [show nI 0 = bI false from rfl]
                      exact J1 false (hr9a) ls (lv_sub hl [0, 1, 2, 3, 4, 5, 6, 7, 8, 9, 10] rfl)
                    · exact J8  (ar_s hk6 (by first | exact fun _ => bI_nz.mp c_102 | exact fun z => absurd z (lt_le' (by decide) c_93) | exact fun z => absurd ((nI_ltI (by omega) (by omega)).mp z) (by omega))) ls (lv_sub hl [0, 1, 2, 3, 4, 5, 6, 7, 8, 9, 10] rfl)
                refine lv_iload_n hx hb dX6_addMore_75 rfl (lv_at hl 2 rfl) ?_
                refine lv_bipush (v := (nI 6)) hx hb dX6_addMore_76 (by decide +kernel) ?_
                refine ln_icmp_lt (tgt := 90) hx hb ⟨by omega, by omega⟩ dX6_addMore_78 (by decide) (fun c_78 => ?_) (fun c_78 => ?_)
                · exact J7  (ar_s hk5 (by first | exact fun _ => bI_nz.mp c_87 | exact fun z => absurd z (lt_le' (by decide) c_78) | exact fun z => absurd ((nI_ltI (by omega) (by omega)).mp z) (by omega))) ls (lv_sub hl [0, 1, 2, 3, 4, 5, 6, 7, 8, 9, 10] rfl)
                · refine lv_aload_n hx hb dX6_addMore_81 rfl (lv_at hl 0 rfl) ?_
                  refine lv_iload hx hb dX6_addMore_82 (lv_at hl 8 rfl) ?_
                  refine ro_V (As := [.int y5]) (rest := []) (wc := []) (r := .int (bI (byB y5))) ⟨hx, hb, hml, hown, hts⟩ (c_X6_isByte l D T g m0 y5) (cwV 1 hts gX6_addMore_X6_isByte rfl rfl rfl (by decide +kernel) ⟨Nat.le_of_ble_eq_true rfl, Nat.le_of_ble_eq_true rfl⟩) (va_recv hK hP (ci := 3) (q0 := 0) rfl rfl) hP hK hG hS [] rfl ⟨Nat.zero_le _, Nat.zero_le _⟩ rfl hl.1 (Nat.le_of_ble_eq_true rfl) dX6_addMore_84 rfl ?_
                  refine lv_if_eq (tgt := 124) hx hb dX6_addMore_87 (by decide) (fun c_87 => ?_) (fun c_87 => ?_)
                  · have hr9a : false = arB (nI m9) (gvN y0 y1 y2 y3 y4 y5 y6 y7) := (ar_n (k := 5) (by decide) (by first | exact lt_le (by decide) c_78 | exact nI_lt (by omega) (by omega)) (bI_z.mp c_87)).symm
                    refine lv_iconst (v := nI 0) hx hb dX6_addMore_124 (by decide +kernel) ?_
                    rw [show nI 0 = bI false from rfl]
                    exact J1 false (hr9a) ls (lv_sub hl [0, 1, 2, 3, 4, 5, 6, 7, 8, 9, 10] rfl)
                  · exact J7  (ar_s hk5 (by first | exact fun _ => bI_nz.mp c_87 | exact fun z => absurd z (lt_le' (by decide) c_78) | exact fun z => absurd ((nI_ltI (by omega) (by omega)).mp z) (by omega))) ls (lv_sub hl [0, 1, 2, 3, 4, 5, 6, 7, 8, 9, 10] rfl)
              refine lv_iload_n hx hb dX6_addMore_61 rfl (lv_at hl 2 rfl) ?_
              refine lv_iconst (v := (nI 5)) hx hb dX6_addMore_62 (by decide +kernel) ?_
              refine ln_icmp_lt (tgt := 75) hx hb ⟨by omega, by omega⟩ dX6_addMore_63 (by decide) (fun c_63 => ?_) (fun c_63 => ?_)
              · exact J6  (ar_s hk4 (by first | exact fun _ => bI_nz.mp c_72 | exact fun z => absurd z (lt_le' (by decide) c_63) | exact fun z => absurd ((nI_ltI (by omega) (by omega)).mp z) (by omega))) ls (lv_sub hl [0, 1, 2, 3, 4, 5, 6, 7, 8, 9, 10] rfl)
              · refine lv_aload_n hx hb dX6_addMore_66 rfl (lv_at hl 0 rfl) ?_
                refine lv_iload hx hb dX6_addMore_67 (lv_at hl 7 rfl) ?_
                refine ro_V (As := [.int y4]) (rest := []) (wc := []) (r := .int (bI (byB y4))) ⟨hx, hb, hml, hown, hts⟩ (c_X6_isByte l D T g m0 y4) (cwV 1 hts gX6_addMore_X6_isByte rfl rfl rfl (by decide +kernel) ⟨Nat.le_of_ble_eq_true rfl, Nat.le_of_ble_eq_true rfl⟩) (va_recv hK hP (ci := 3) (q0 := 0) rfl rfl) hP hK hG hS [] rfl ⟨Nat.zero_le _, Nat.zero_le _⟩ rfl hl.1 (Nat.le_of_ble_eq_true rfl) dX6_addMore_69 rfl ?_
                refine lv_if_eq (tgt := 124) hx hb dX6_addMore_72 (by decide) (fun c_72 => ?_) (fun c_72 => ?_)
                · have hr9a : false = arB (nI m9) (gvN y0 y1 y2 y3 y4 y5 y6 y7) := (ar_n (k := 4) (by decide) (by first | exact lt_le (by decide) c_63 | exact nI_lt (by omega) (by omega)) (bI_z.mp c_72)).symm
                  refine lv_iconst (v := nI 0) hx hb dX6_addMore_124 (by decide +kernel) ?_
                  rw [show nI 0 = bI false from rfl]
                  exact J1 false (hr9a) ls (lv_sub hl [0, 1, 2, 3, 4, 5, 6, 7, 8, 9, 10] rfl)
                · exact J6  (ar_s hk4 (by first | exact fun _ => bI_nz.mp c_72 | exact fun z => absurd z (lt_le' (by decide) c_63) | exact fun z => absurd ((nI_ltI (by omega) (by omega)).mp z) (by omega))) ls (lv_sub hl [0, 1, 2, 3, 4, 5, 6, 7, 8, 9, 10] rfl)
            refine lv_iload_n hx hb dX6_addMore_47 rfl (lv_at hl 2 rfl) ?_
            refine lv_iconst (v := (nI 4)) hx hb dX6_addMore_48 (by decide +kernel) ?_
            refine ln_icmp_lt (tgt := 61) hx hb ⟨by omega, by omega⟩ dX6_addMore_49 (by decide) (fun c_49 => ?_) (fun c_49 => ?_)
            · exact J5  (ar_s hk3 (by first | exact fun _ => bI_nz.mp c_58 | exact fun z => absurd z (lt_le' (by decide) c_49) | exact fun z => absurd ((nI_ltI (by omega) (by omega)).mp z) (by omega))) ls (lv_sub hl [0, 1, 2, 3, 4, 5, 6, 7, 8, 9, 10] rfl)
            · refine lv_aload_n hx hb dX6_addMore_52 rfl (lv_at hl 0 rfl) ?_
              refine lv_iload hx hb dX6_addMore_53 (lv_at hl 6 rfl) ?_
              refine ro_V (As := [.int y3]) (rest := []) (wc := []) (r := .int (bI (byB y3))) ⟨hx, hb, hml, hown, hts⟩ (c_X6_isByte l D T g m0 y3) (cwV 1 hts gX6_addMore_X6_isByte rfl rfl rfl (by decide +kernel) ⟨Nat.le_of_ble_eq_true rfl, Nat.le_of_ble_eq_true rfl⟩) (va_recv hK hP (ci := 3) (q0 := 0) rfl rfl) hP hK hG hS [] rfl ⟨Nat.zero_le _, Nat.zero_le _⟩ rfl hl.1 (Nat.le_of_ble_eq_true rfl) dX6_addMore_55 rfl ?_
              refine lv_if_eq (tgt := 124) hx hb dX6_addMore_58 (by decide) (fun c_58 => ?_) (fun c_58 => ?_)
              · have hr9a : false = arB (nI m9) (gvN y0 y1 y2 y3 y4 y5 y6 y7) := (ar_n (k := 3) (by decide) (by first | exact lt_le (by decide) c_49 | exact nI_lt (by omega) (by omega)) (bI_z.mp c_58)).symm
                refine lv_iconst (v := nI 0) hx hb dX6_addMore_124 (by decide +kernel) ?_
                rw [show nI 0 = bI false from rfl]
                exact J1 false (hr9a) ls (lv_sub hl [0, 1, 2, 3, 4, 5, 6, 7, 8, 9, 10] rfl)
              · exact J5  (ar_s hk3 (by first | exact fun _ => bI_nz.mp c_58 | exact fun z => absurd z (lt_le' (by decide) c_49) | exact fun z => absurd ((nI_ltI (by omega) (by omega)).mp z) (by omega))) ls (lv_sub hl [0, 1, 2, 3, 4, 5, 6, 7, 8, 9, 10] rfl)
          refine lv_iload_n hx hb dX6_addMore_33 rfl (lv_at hl 2 rfl) ?_
          refine lv_iconst (v := (nI 3)) hx hb dX6_addMore_34 (by decide +kernel) ?_
          refine ln_icmp_lt (tgt := 47) hx hb ⟨by omega, by omega⟩ dX6_addMore_35 (by decide) (fun c_35 => ?_) (fun c_35 => ?_)
          · exact J4  (ar_s hk2 (by first | exact fun _ => bI_nz.mp c_44 | exact fun z => absurd z (lt_le' (by decide) c_35) | exact fun z => absurd ((nI_ltI (by omega) (by omega)).mp z) (by omega))) ls (lv_sub hl [0, 1, 2, 3, 4, 5, 6, 7, 8, 9, 10] rfl)
          · refine lv_aload_n hx hb dX6_addMore_38 rfl (lv_at hl 0 rfl) ?_
            refine lv_iload hx hb dX6_addMore_39 (lv_at hl 5 rfl) ?_
            refine ro_V (As := [.int y2]) (rest := []) (wc := []) (r := .int (bI (byB y2))) ⟨hx, hb, hml, hown, hts⟩ (c_X6_isByte l D T g m0 y2) (cwV 1 hts gX6_addMore_X6_isByte rfl rfl rfl (by decide +kernel) ⟨Nat.le_of_ble_eq_true rfl, Nat.le_of_ble_eq_true rfl⟩) (va_recv hK hP (ci := 3) (q0 := 0) rfl rfl) hP hK hG hS [] rfl ⟨Nat.zero_le _, Nat.zero_le _⟩ rfl hl.1 (Nat.le_of_ble_eq_true rfl) dX6_addMore_41 rfl ?_
            refine lv_if_eq (tgt := 124) hx hb dX6_addMore_44 (by decide) (fun c_44 => ?_) (fun c_44 => ?_)
            · have hr9a : false = arB (nI m9) (gvN y0 y1 y2 y3 y4 y5 y6 y7) := (ar_n (k := 2) (by decide) (by first | exact lt_le (by decide) c_35 | exact nI_lt (by omega) (by omega)) (bI_z.mp c_44)).symm
              refine lv_iconst (v := nI 0) hx hb dX6_addMore_124 (by decide +kernel) ?_
              rw [show nI 0 = bI false from rfl]
              exact J1 false (hr9a) ls (lv_sub hl [0, 1, 2, 3, 4, 5, 6, 7, 8, 9, 10] rfl)
            · exact J4  (ar_s hk2 (by first | exact fun _ => bI_nz.mp c_44 | exact fun z => absurd z (lt_le' (by decide) c_35) | exact fun z => absurd ((nI_ltI (by omega) (by omega)).mp z) (by omega))) ls (lv_sub hl [0, 1, 2, 3, 4, 5, 6, 7, 8, 9, 10] rfl)
        refine lv_iload_n hx hb dX6_addMore_19 rfl (lv_at hl 2 rfl) ?_
        refine lv_iconst (v := (nI 2)) hx hb dX6_addMore_20 (by decide +kernel) ?_
        refine ln_icmp_lt (tgt := 33) hx hb ⟨by omega, by omega⟩ dX6_addMore_21 (by decide) (fun c_21 => ?_) (fun c_21 => ?_)
        · exact J3  (ar_s hk1 (by first | exact fun _ => bI_nz.mp c_30 | exact fun z => absurd z (lt_le' (by decide) c_21) | exact fun z => absurd ((nI_ltI (by omega) (by omega)).mp z) (by omega))) ls (lv_sub hl [0, 1, 2, 3, 4, 5, 6, 7, 8, 9, 10] rfl)
        · refine lv_aload_n hx hb dX6_addMore_24 rfl (lv_at hl 0 rfl) ?_
          refine lv_iload hx hb dX6_addMore_25 (lv_at hl 4 rfl) ?_
          refine ro_V (As := [.int y1]) (rest := []) (wc := []) (r := .int (bI (byB y1))) ⟨hx, hb, hml, hown, hts⟩ (c_X6_isByte l D T g m0 y1) (cwV 1 hts gX6_addMore_X6_isByte rfl rfl rfl (by decide +kernel) ⟨Nat.le_of_ble_eq_true rfl, Nat.le_of_ble_eq_true rfl⟩) (va_recv hK hP (ci := 3) (q0 := 0) rfl rfl) hP hK hG hS [] rfl ⟨Nat.zero_le _, Nat.zero_le _⟩ rfl hl.1 (Nat.le_of_ble_eq_true rfl) dX6_addMore_27 rfl ?_
          refine lv_if_eq (tgt := 124) hx hb dX6_addMore_30 (by decide) (fun c_30 => ?_) (fun c_30 => ?_)
          · have hr9a : false = arB (nI m9) (gvN y0 y1 y2 y3 y4 y5 y6 y7) := (ar_n (k := 1) (by decide) (by first | exact lt_le (by decide) c_21 | exact nI_lt (by omega) (by omega)) (bI_z.mp c_30)).symm
            refine lv_iconst (v := nI 0) hx hb dX6_addMore_124 (by decide +kernel) ?_
            rw [show nI 0 = bI false from rfl]
            exact J1 false (hr9a) ls (lv_sub hl [0, 1, 2, 3, 4, 5, 6, 7, 8, 9, 10] rfl)
          · exact J3  (ar_s hk1 (by first | exact fun _ => bI_nz.mp c_30 | exact fun z => absurd z (lt_le' (by decide) c_21) | exact fun z => absurd ((nI_ltI (by omega) (by omega)).mp z) (by omega))) ls (lv_sub hl [0, 1, 2, 3, 4, 5, 6, 7, 8, 9, 10] rfl)
set_option maxHeartbeats 4000000 in
set_option maxRecDepth 100000 in
theorem m_addMore (l : Launch) (D : va_G) (T : Nat → ClassId) (g : Nat → Nat) (sz : Nat) (m0 : Nat) (mb : Nat) (ml : Nat) (mm : Nat) (mk : Nat) (many : Nat) (th : Int32) (fb : Nat → Int32) (fl : Nat → Int32) (fm : Nat → Int32) (fk : Nat → Int32) (N : Nat → Nat) (Bw : Nat → Nat → Nat) (hMR : MR fl fb N Bw) (i : Nat) (hi : i < 6) (m9 : Nat) (hm : 1 ≤ m9 ∧ m9 ≤ 8) (v : Nat → Nat) (y0 : Int32) (y1 : Int32) (y2 : Int32) (y3 : Int32) (y4 : Int32) (y5 : Int32) (y6 : Int32) (y7 : Int32) (hgd : ∀ j, j < m9 → (gvN y0 y1 y2 y3 y4 y5 y6 y7) j = nI (v j) ∧ v j < 256) (hf : N i + m9 ≤ 320) : MU l yX6_addMore wsX6_addMore ({ frames := 62, cells := 0, slots := 0, locals := 3100 } : Room) D T g [.ref m0, .int (nI i), .int (nI m9), .int y0, .int y1, .int y2, .int y3, .int y4, .int y5, .int y6, .int y7] [(m0, .inr (3, [.ref mb, .ref ml, .ref mm, .int (nI many), .int th, .ref mk])), (mb, .inl (T 0, 1920, .inl fb)), (ml, .inl (T 0, 6, .inl fl)), (mm, .inl (T 0, 600, .inl fm)), (mk, .inl (T 0, 320, .inl fk))] sz (fun u : Nat × Int32 × (Nat → Int32) × (Nat → Int32) × (Nat → Int32) × (Nat → Int32) => some (.int (nI (N i + m9)))) (fun u : Nat × Int32 × (Nat → Int32) × (Nat → Int32) × (Nat → Int32) × (Nat → Int32) => u.2.1 = nI 0 ∧ MR u.2.2.2.1 u.2.2.1 (upA N i (N i + m9)) (upA Bw i (catN (Bw i) (N i) v))) (fun u : Nat × Int32 × (Nat → Int32) × (Nat → Int32) × (Nat → Int32) × (Nat → Int32) => [(m0, .inr (3, [.ref mb, .ref ml, .ref mm, .int (nI u.1), .int u.2.1, .ref mk])), (mb, .inl (T 0, 1920, .inl u.2.2.1)), (ml, .inl (T 0, 6, .inl u.2.2.2.1)), (mm, .inl (T 0, 600, .inl u.2.2.2.2.1)), (mk, .inl (T 0, 320, .inl u.2.2.2.2.2))]) 0 0 := by
  refine Met.ofW (cc := cX6_addMore) (maxL := 13) (ret := (some .int)) (by decide) rfl ?_
  intro p e s m args below meth c s₁ B hml hv
  obtain ⟨rfl, hsz, hP, hK, hD0, hG⟩ := hv
  have hx := B.exec
  have hb := B.bytes
  have hr := B.returns
  have hts := atoms_spec (ws := wsX6_addMore) B.pre
  have hown : s.vm.findClass RX6 = some m.cls := findClass_of_methodNamed B.named
  have hlocks := B.notSynchronized
  have hi_X6 : ∀ w ∈ wsX60, w ∈ wsX6_addMore := by decide +kernel
  subst hsz
  have hD := hD0.self (sz := s.heap.size)
  generalize hAe : va_A [(m0, .inr (3, [.ref mb, .ref ml, .ref mm, .int (nI many), .int th, .ref mk])), (mb, .inl (T 0, 1920, .inl fb)), (ml, .inl (T 0, 6, .inl fl)), (mm, .inl (T 0, 600, .inl fm)), (mk, .inl (T 0, 320, .inl fk))] s.heap.size = A at hD hG ⊢
  have hA : ∀ q : Nat, s.heap.size ≤ q → A q := fun q h => by rw [← hAe]; exact Or.inr h
  have hS : va_S A s.heap s.heap [] := va_S.rf
  have hP : va_P D cls [(m0, .inr (3, [.ref mb, .ref ml, .ref mm, .int (nI many), .int th, .ref mk])), (mb, .inl (T 0, 1920, .inl fb)), (ml, .inl (T 0, 6, .inl fl)), (mm, .inl (T 0, 600, .inl fm)), (mk, .inl (T 0, 320, .inl fk))] s.heap := hP
  have hl := lv_entry ([.ref m0, .int (nI i), .int (nI m9), .int y0, .int y1, .int y2, .int y3, .int y4, .int y5, .int y6, .int y7]) (n := 13) (Nat.le_of_ble_eq_true rfl)
  rw [lg_entry_eq]
  generalize (lg_sl ([.ref m0, .int (nI i), .int (nI m9), .int y0, .int y1, .int y2, .int y3, .int y4, .int y5, .int y6, .int y7]) ++ List.replicate (13 - (lg_sl ([.ref m0, .int (nI i), .int (nI m9), .int y0, .int y1, .int y2, .int y3, .int y4, .int y5, .int y6, .int y7])).length) Slot.unset).toArray = ls at hl ⊢
  have hl : lv_has ls 13 [(0, .ref m0), (1, .int (nI i)), (2, .int (nI m9)), (3, .int y0), (4, .int y1), (5, .int y2), (6, .int y3), (7, .int y4), (8, .int y5), (9, .int y6), (10, .int y7)] := hl
  have hrow := hMR i hi
  have hn := hrow.2.1
  have J1 : ∀ (r9 : Bool), (r9 = arB (nI m9) (gvN y0 y1 y2 y3 y4 y5 y6 y7)) → ∀ ls : Array Slot, lv_has ls 13 [(0, .ref m0), (1, .int (nI i)), (2, .int (nI m9)), (3, .int y0), (4, .int y1), (5, .int y2), (6, .int y3), (7, .int y4), (8, .int y5), (9, .int y6), (10, .int y7)] → W p l e (headSpec wsX6_addMore ({ frames := 62, cells := 0, slots := 0, locals := 3100 } : Room)).room s m ([.ref m0, .int (nI i), .int (nI m9), .int y0, .int y1, .int y2, .int y3, .int y4, .int y5, .int y6, .int y7] : List Value).toArray below meth c s.heap [] 0 0 (MQ below (QM D T A (fun u : Nat × Int32 × (Nat → Int32) × (Nat → Int32) × (Nat → Int32) × (Nat → Int32) => some (.int (nI (N i + m9)))) (fun u : Nat × Int32 × (Nat → Int32) × (Nat → Int32) × (Nat → Int32) × (Nat → Int32) => u.2.1 = nI 0 ∧ MR u.2.2.2.1 u.2.2.1 (upA N i (N i + m9)) (upA Bw i (catN (Bw i) (N i) v))) (fun u : Nat × Int32 × (Nat → Int32) × (Nat → Int32) × (Nat → Int32) × (Nat → Int32) => [(m0, .inr (3, [.ref mb, .ref ml, .ref mm, .int (nI u.1), .int u.2.1, .ref mk])), (mb, .inl (T 0, 1920, .inl u.2.2.1)), (ml, .inl (T 0, 6, .inl u.2.2.2.1)), (mm, .inl (T 0, 600, .inl u.2.2.2.2.1)), (mk, .inl (T 0, 320, .inl u.2.2.2.2.2))])) ([.ref m0, .int (nI i), .int (nI m9), .int y0, .int y1, .int y2, .int y3, .int y4, .int y5, .int y6, .int y7] : List Value).toArray s 0 0 A) (F0 m 125 ls [.int (bI r9)]) := by
    intro r9 hr9 ls hl
    refine lv_istore (lv' := [(11, .int (bI r9)), (0, .ref m0), (1, .int (nI i)), (2, .int (nI m9)), (3, .int y0), (4, .int y1), (5, .int y2), (6, .int y3), (7, .int y4), (8, .int y5), (9, .int y6), (10, .int y7)]) hx hb dX6_addMore_125 hl (by decide) rfl (fun ls hl => ?_)
    have hr8 : r9 = true := hr9.trans (ar_y hm hgd)
    rw [hr8] at hl
    refine lv_aload_n hx hb dX6_addMore_127 rfl (lv_at hl 1 rfl) ?_
    refine lv_aload_n hx hb dX6_addMore_128 rfl (lv_at hl 1 rfl) ?_
    refine lv_iload_n hx hb dX6_addMore_129 rfl (lv_at hl 2 rfl) ?_
    refine ro_V (As := [.int (nI i)]) (rest := [.ref m0]) (wc := []) (r := .int (nI 1)) ⟨hx, hb, hml, hown, hts⟩ (c_X6_isRow_y l D T g m0 i (by omega)) (cwV 1 hts gX6_addMore_X6_isRow rfl rfl rfl (by decide +kernel) ⟨Nat.le_of_ble_eq_true rfl, Nat.le_of_ble_eq_true rfl⟩) (va_recv hK hP (ci := 3) (q0 := 0) rfl rfl) hP hK hG hS [] rfl ⟨Nat.zero_le _, Nat.zero_le _⟩ rfl hl.1 (Nat.le_of_ble_eq_true rfl) dX6_addMore_130 rfl ?_
    refine ln_if_ne_t (tgt := 140) hx hb (by omega) (by decide) dX6_addMore_133 (by decide) ?_
    refine lv_iload hx hb dX6_addMore_140 (lv_at hl 0 rfl) ?_
    refine lv_if_ne (tgt := 149) hx hb dX6_addMore_142 (by decide) (fun _ => ?_) (fun q9 => absurd q9 (by decide))
    refine lv_aload_n hx hb dX6_addMore_149 rfl (lv_at hl 1 rfl) ?_
    refine va_get (D := D) (ci := 3) (v := .ref ml) (C := RX6) (T := TX6) (N := 6) hx hb hts hi_X6 hown hK hP 0 rfl rfl 1 (by decide) (hts _ (List.mem_of_getElem? (i := 1) rfl)) (fun _ h9 => h9) rfl dX6_addMore_150 ?_
    refine lv_iload_n hx hb dX6_addMore_153 rfl (lv_at hl 2 rfl) ?_
    refine ln_iald hx hb hK hP 2 0 rfl rfl ⟨by omega, by omega⟩ dX6_addMore_154 ?_
    rw [show fl i = nI (N i) from hrow.1]
    refine lv_iload_n hx hb dX6_addMore_155 rfl (lv_at hl 3 rfl) ?_
    refine ln_add hx hb dX6_addMore_156 ?_
    refine lv_sipush (v := (nI 320)) hx hb dX6_addMore_157 (by decide +kernel) ?_
    refine ln_icmp_le_t (tgt := 167) hx hb ⟨by omega, by omega⟩ (by omega) dX6_addMore_160 (by decide) ?_
    refine lv_iconst (v := (nI 0)) hx hb dX6_addMore_167 (by decide +kernel) ?_
    refine mu_V (As := [.int (nI 0)]) (rest := []) (wc := [(m0, .inr (3, [.ref mb, .ref ml, .ref mm, .int (nI many), .int th, .ref mk]))]) (wr := [(mb, .inl (T 0, 1920, .inl fb)), (ml, .inl (T 0, 6, .inl fl)), (mm, .inl (T 0, 600, .inl fm)), (mk, .inl (T 0, 320, .inl fk))]) ⟨hx, hb, hml, hown, hts⟩ (c_X6_isWrong_0 l D T g s.heap.size m0 mb ml mm mk many th) (cwV 1 hts gX6_addMore_X6_isWrong rfl rfl rfl (by decide +kernel) ⟨Nat.le_of_ble_eq_true rfl, Nat.le_of_ble_eq_true rfl⟩) (va_recv hK hP (ci := 3) (q0 := 0) rfl rfl) hP hD hK hG hS hA [0] [1, 2, 3, 4] rfl (by decide) rfl (by decide) (by decide) ⟨Nat.le_of_ble_eq_true rfl, Nat.le_of_ble_eq_true rfl⟩ rfl hl.1 (Nat.le_of_ble_eq_true rfl) dX6_addMore_168 rfl (fun u H locs hq2 hP hD hS => ?_)
    have hP : va_P D cls [(mb, .inl (T 0, 1920, .inl fb)), (ml, .inl (T 0, 6, .inl fl)), (mm, .inl (T 0, 600, .inl fm)), (mk, .inl (T 0, 320, .inl fk)), (m0, .inr (3, [.ref mb, .ref ml, .ref mm, .int (nI many), .int (nI 0), .ref mk]))] H := hP
    have hD : va_D A [(mb, .inl (T 0, 1920, .inl fb)), (ml, .inl (T 0, 6, .inl fl)), (mm, .inl (T 0, 600, .inl fm)), (mk, .inl (T 0, 320, .inl fk)), (m0, .inr (3, [.ref mb, .ref ml, .ref mm, .int (nI many), .int (nI 0), .ref mk]))] := hD
    refine W.eq (g2 := F0 m 171 ls [.int (nI 0)]) rfl ?_
    refine ln_if_eq_t (tgt := 176) hx hb (by omega) (by decide) dX6_addMore_171 (by decide) ?_
    refine lv_iconst (v := (nI 0)) hx hb dX6_addMore_176 (by decide +kernel) ?_
    refine lv_istore (lv' := [(12, .int (nI 0)), (11, .int (bI true)), (0, .ref m0), (1, .int (nI i)), (2, .int (nI m9)), (3, .int y0), (4, .int y1), (5, .int y2), (6, .int y3), (7, .int y4), (8, .int y5), (9, .int y6), (10, .int y7)]) hx hb dX6_addMore_177 hl (by decide) rfl (fun ls hl => ?_)
    have K3 : ∀ (N9 : Nat) (t : Nat) (mn : Nat) (thx : Int32) (FB : Nat → Int32) (FL : Nat → Int32) (FM : Nat → Int32) (FK : Nat → Int32), (t ≤ m9) → (thx = nI 0) → (MR FL FB (upA N i (N i + t)) (upA Bw i (catN (Bw i) (N i) v))) → m9 - t < N9 → ∀ (H : Heap) (locs : List Loc), va_P D cls [(m0, .inr (3, [.ref mb, .ref ml, .ref mm, .int (nI mn), .int thx, .ref mk])), (mb, .inl (T 0, 1920, .inl FB)), (ml, .inl (T 0, 6, .inl FL)), (mm, .inl (T 0, 600, .inl FM)), (mk, .inl (T 0, 320, .inl FK))] H → va_D A [(m0, .inr (3, [.ref mb, .ref ml, .ref mm, .int (nI mn), .int thx, .ref mk])), (mb, .inl (T 0, 1920, .inl FB)), (ml, .inl (T 0, 6, .inl FL)), (mm, .inl (T 0, 600, .inl FM)), (mk, .inl (T 0, 320, .inl FK))] → va_S A s.heap H locs → ∀ ls : Array Slot, lv_has ls 13 [(0, .ref m0), (1, .int (nI i)), (2, .int (nI m9)), (3, .int y0), (4, .int y1), (5, .int y2), (6, .int y3), (7, .int y4), (8, .int y5), (9, .int y6), (10, .int y7), (12, .int (nI t))] → W p l e (headSpec wsX6_addMore ({ frames := 62, cells := 0, slots := 0, locals := 3100 } : Room)).room s m ([.ref m0, .int (nI i), .int (nI m9), .int y0, .int y1, .int y2, .int y3, .int y4, .int y5, .int y6, .int y7] : List Value).toArray below meth c H locs 0 0 (MQ below (QM D T A (fun u : Nat × Int32 × (Nat → Int32) × (Nat → Int32) × (Nat → Int32) × (Nat → Int32) => some (.int (nI (N i + m9)))) (fun u : Nat × Int32 × (Nat → Int32) × (Nat → Int32) × (Nat → Int32) × (Nat → Int32) => u.2.1 = nI 0 ∧ MR u.2.2.2.1 u.2.2.1 (upA N i (N i + m9)) (upA Bw i (catN (Bw i) (N i) v))) (fun u : Nat × Int32 × (Nat → Int32) × (Nat → Int32) × (Nat → Int32) × (Nat → Int32) => [(m0, .inr (3, [.ref mb, .ref ml, .ref mm, .int (nI u.1), .int u.2.1, .ref mk])), (mb, .inl (T 0, 1920, .inl u.2.2.1)), (ml, .inl (T 0, 6, .inl u.2.2.2.1)), (mm, .inl (T 0, 600, .inl u.2.2.2.2.1)), (mk, .inl (T 0, 320, .inl u.2.2.2.2.2))])) ([.ref m0, .int (nI i), .int (nI m9), .int y0, .int y1, .int y2, .int y3, .int y4, .int y5, .int y6, .int y7] : List Value).toArray s 0 0 A) (F0 m 179 ls []) := by
      intro N9
      induction N9 with
      | zero => intro t mn thx FB FL FM FK ht8 hth hMt h9; exact absurd h9 (Nat.not_lt_zero _)
      | succ N9 ih_179 =>
        intro t mn thx FB FL FM FK ht8 hth hMt h9 H locs hP hD hS ls hl
        refine lv_iload hx hb dX6_addMore_179 (lv_at hl 11 rfl) ?_
        refine lv_iload_n hx hb dX6_addMore_181 rfl (lv_at hl 2 rfl) ?_
        refine ln_icmp_ge (tgt := 275) hx hb ⟨by omega, by omega⟩ dX6_addMore_182 (by decide) (fun c_182 => ?_) (fun c_182 => ?_)
        · refine lv_aload_n hx hb dX6_addMore_275 rfl (lv_at hl 0 rfl) ?_
          refine va_get (D := D) (ci := 3) (v := .ref ml) (C := RX6) (T := TX6) (N := 6) hx hb hts hi_X6 hown hK hP 0 rfl rfl 1 (by decide) (hts _ (List.mem_of_getElem? (i := 1) rfl)) (fun _ h9 => h9) rfl dX6_addMore_276 ?_
          refine lv_iload_n hx hb dX6_addMore_279 rfl (lv_at hl 1 rfl) ?_
          have e9 : t = m9 := by omega
          refine ln_iald hx hb hK hP 2 0 rfl rfl ⟨by omega, by omega⟩ dX6_addMore_280 ?_
          rw [show FL i = nI (N i + m9) from by have h9 := (hMt i hi).1; rw [upA_s, show t = m9 from by omega] at h9; exact h9]
          have hP9 := hP.sub (ws' := [(m0, .inr (3, [.ref mb, .ref ml, .ref mm, .int (nI mn), .int thx, .ref mk])), (mb, .inl (T 0, 1920, .inl FB)), (ml, .inl (T 0, 6, .inl FL)), (mm, .inl (T 0, 600, .inl FM)), (mk, .inl (T 0, 320, .inl FK))]) [0, 1, 2, 3, 4] rfl
          have hD9 := hD.sub (ws' := [(m0, .inr (3, [.ref mb, .ref ml, .ref mm, .int (nI mn), .int thx, .ref mk])), (mb, .inl (T 0, 1920, .inl FB)), (ml, .inl (T 0, 6, .inl FL)), (mm, .inl (T 0, 600, .inl FM)), (mk, .inl (T 0, 320, .inl FK))]) [0, 1, 2, 3, 4] (by decide) rfl
          exact W.iret (v := (nI (N i + m9))) hx hb hr (fun t ht hW => ⟨⟨(mn, thx, FB, FL, FM, FK), rfl, show thx = nI 0 ∧ MR FL FB (upA N i (N i + m9)) (upA Bw i (catN (Bw i) (N i) v)) from ⟨hth, by rw [e9] at hMt; exact hMt⟩, (by rw [ht]; exact hP9), va_K.moved hW.alike hK, hD9⟩, hS.F ht⟩) hS.2.2 dX6_addMore_281
        · refine lv_aload_n hx hb dX6_addMore_185 rfl (lv_at hl 0 rfl) ?_
          refine lv_iload_n hx hb dX6_addMore_186 rfl (lv_at hl 1 rfl) ?_
          have J4 : ∀ (x9 : Int32), (x9 = gvN y0 y1 y2 y3 y4 y5 y6 y7 t) → ∀ ls : Array Slot, lv_has ls 13 [(0, .ref m0), (1, .int (nI i)), (2, .int (nI m9)), (3, .int y0), (4, .int y1), (5, .int y2), (6, .int y3), (7, .int y4), (8, .int y5), (9, .int y6), (10, .int y7), (12, .int (nI t))] → W p l e (headSpec wsX6_addMore ({ frames := 62, cells := 0, slots := 0, locals := 3100 } : Room)).room s m ([.ref m0, .int (nI i), .int (nI m9), .int y0, .int y1, .int y2, .int y3, .int y4, .int y5, .int y6, .int y7] : List Value).toArray below meth c H locs 0 0 (MQ below (QM D T A (fun u : Nat × Int32 × (Nat → Int32) × (Nat → Int32) × (Nat → Int32) × (Nat → Int32) => some (.int (nI (N i + m9)))) (fun u : Nat × Int32 × (Nat → Int32) × (Nat → Int32) × (Nat → Int32) × (Nat → Int32) => u.2.1 = nI 0 ∧ MR u.2.2.2.1 u.2.2.1 (upA N i (N i + m9)) (upA Bw i (catN (Bw i) (N i) v))) (fun u : Nat × Int32 × (Nat → Int32) × (Nat → Int32) × (Nat → Int32) × (Nat → Int32) => [(m0, .inr (3, [.ref mb, .ref ml, .ref mm, .int (nI u.1), .int u.2.1, .ref mk])), (mb, .inl (T 0, 1920, .inl u.2.2.1)), (ml, .inl (T 0, 6, .inl u.2.2.2.1)), (mm, .inl (T 0, 600, .inl u.2.2.2.2.1)), (mk, .inl (T 0, 320, .inl u.2.2.2.2.2))])) ([.ref m0, .int (nI i), .int (nI m9), .int y0, .int y1, .int y2, .int y3, .int y4, .int y5, .int y6, .int y7] : List Value).toArray s 0 0 A) (F0 m 265 ls [.int x9, .int (nI i), .ref m0]) := by
            intro x9 hx9 ls hl
            rw [show x9 = nI (v t) from hx9.trans (hgd t (by omega)).1]
            refine mu_V (As := [.int (nI i), .int (nI (v t))]) (rest := []) (wc := [(m0, .inr (3, [.ref mb, .ref ml, .ref mm, .int (nI mn), .int thx, .ref mk])), (mb, .inl (T 0, 1920, .inl FB)), (ml, .inl (T 0, 6, .inl FL)), (mm, .inl (T 0, 600, .inl FM)), (mk, .inl (T 0, 320, .inl FK))]) (wr := []) ⟨hx, hb, hml, hown, hts⟩ (m_add l D T g H.size m0 mb ml mm mk mn thx FB FL FM FK (upA N i (N i + t)) (upA Bw i (catN (Bw i) (N i) v)) (hMt) i hi (v t) ((hgd t (by omega)).2) (by rw [upA_s]; omega)) (cwV 2 hts gX6_addMore_X6_add rfl rfl rfl (by decide +kernel) ⟨Nat.le_of_ble_eq_true rfl, Nat.le_of_ble_eq_true rfl⟩) (va_recv hK hP (ci := 3) (q0 := 0) rfl rfl) hP hD hK hG hS hA [0, 1, 2, 3, 4] [] rfl (by decide) rfl (by decide) (by decide) ⟨Nat.le_of_ble_eq_true rfl, Nat.le_of_ble_eq_true rfl⟩ rfl hl.1 (Nat.le_of_ble_eq_true rfl) dX6_addMore_265 rfl (fun u H locs hq11 hP hD hS => ?_)
            obtain ⟨many2_5, th2_6, fb2_7, fl2_8, fm2_9, fk2_10⟩ := u
            have hP : va_P D cls [(m0, .inr (3, [.ref mb, .ref ml, .ref mm, .int (nI many2_5), .int th2_6, .ref mk])), (mb, .inl (T 0, 1920, .inl fb2_7)), (ml, .inl (T 0, 6, .inl fl2_8)), (mm, .inl (T 0, 600, .inl fm2_9)), (mk, .inl (T 0, 320, .inl fk2_10))] H := hP
            have hD : va_D A [(m0, .inr (3, [.ref mb, .ref ml, .ref mm, .int (nI many2_5), .int th2_6, .ref mk])), (mb, .inl (T 0, 1920, .inl fb2_7)), (ml, .inl (T 0, 6, .inl fl2_8)), (mm, .inl (T 0, 600, .inl fm2_9)), (mk, .inl (T 0, 320, .inl fk2_10))] := hD
            have hp1 : th2_6 = nI 0 ∧ MR fl2_8 fb2_7 (upA (upA N i (N i + t)) i ((upA N i (N i + t)) i + 1)) (upA (upA Bw i (catN (Bw i) (N i) v)) i (upN ((upA Bw i (catN (Bw i) (N i) v)) i) ((upA N i (N i + t)) i) (v t))) := hq11
            refine W.eq (g2 := F0 m 268 ls [.int (nI ((upA N i (N i + t)) i + 1))]) rfl ?_
            refine lv_pop hx hb dX6_addMore_268 rfl ?_
            refine lv_iinc (v := (nI (t + 1))) (lv' := [(12, .int (nI (t + 1))), (0, .ref m0), (1, .int (nI i)), (2, .int (nI m9)), (3, .int y0), (4, .int y1), (5, .int y2), (6, .int y3), (7, .int y4), (8, .int y5), (9, .int y6), (10, .int y7)]) hx hb dX6_addMore_269 hl (k := 11) rfl (ni_inc1 _) (by decide) rfl (fun ls hl => ?_)
            refine lv_goto (tgt := 179) hx hb dX6_addMore_272 (by decide) ?_
            exact ih_179 (t + 1) many2_5 th2_6 fb2_7 fl2_8 fm2_9 fk2_10 (by omega) (hp1.1) (MR_cat hp1.2 hi) (by omega) _ _ (hP.sub (ws' := [(m0, .inr (3, [.ref mb, .ref ml, .ref mm, .int (nI many2_5), .int th2_6, .ref mk])), (mb, .inl (T 0, 1920, .inl fb2_7)), (ml, .inl (T 0, 6, .inl fl2_8)), (mm, .inl (T 0, 600, .inl fm2_9)), (mk, .inl (T 0, 320, .inl fk2_10))]) [0, 1, 2, 3, 4] rfl) (hD.sub (ws' := [(m0, .inr (3, [.ref mb, .ref ml, .ref mm, .int (nI many2_5), .int th2_6, .ref mk])), (mb, .inl (T 0, 1920, .inl fb2_7)), (ml, .inl (T 0, 6, .inl fl2_8)), (mm, .inl (T 0, 600, .inl fm2_9)), (mk, .inl (T 0, 320, .inl fk2_10))]) [0, 1, 2, 3, 4] (by decide) rfl) hS ls (lv_sub hl [1, 2, 3, 4, 5, 6, 7, 8, 9, 10, 11, 0] rfl)
          refine lv_iload hx hb dX6_addMore_187 (lv_at hl 11 rfl) ?_
          refine ln_if_ne (tgt := 196) hx hb (by omega) dX6_addMore_189 (by decide) (fun c_189 => ?_) (fun c_189 => ?_)
          · refine lv_iload hx hb dX6_addMore_196 (lv_at hl 11 rfl) ?_
            refine lv_iconst (v := (nI 1)) hx hb dX6_addMore_198 (by decide +kernel) ?_
            refine ln_icmp_ne (tgt := 207) hx hb ⟨by omega, by omega⟩ dX6_addMore_199 (by decide) (fun c_199 => ?_) (fun c_199 => ?_)
            · refine lv_iload hx hb dX6_addMore_207 (lv_at hl 11 rfl) ?_
              refine lv_iconst (v := (nI 2)) hx hb dX6_addMore_209 (by decide +kernel) ?_
              refine ln_icmp_ne (tgt := 218) hx hb ⟨by omega, by omega⟩ dX6_addMore_210 (by decide) (fun c_210 => ?_) (fun c_210 => ?_)
              · refine lv_iload hx hb dX6_addMore_218 (lv_at hl 11 rfl) ?_
                refine lv_iconst (v := (nI 3)) hx hb dX6_addMore_220 (by decide +kernel) ?_
                refine ln_icmp_ne (tgt := 229) hx hb ⟨by omega, by omega⟩ dX6_addMore_221 (by decide) (fun c_221 => ?_) (fun c_221 => ?_)
                · refine lv_iload hx hb dX6_addMore_229 (lv_at hl 11 rfl) ?_
                  refine lv_iconst (v := (nI 4)) hx hb dX6_addMore_231 (by decide +kernel) ?_
                  refine ln_icmp_ne (tgt := 240) hx hb ⟨by omega, by omega⟩ dX6_addMore_232 (by decide) (fun c_232 => ?_) (fun c_232 => ?_)
                  · refine lv_iload hx hb dX6_addMore_240 (lv_at hl 11 rfl) ?_
                    refine lv_iconst (v := (nI 5)) hx hb dX6_addMore_242 (by decide +kernel) ?_
                    refine ln_icmp_ne (tgt := 251) hx hb ⟨by omega, by omega⟩ dX6_addMore_243 (by decide) (fun c_243 => ?_) (fun c_243 => ?_)
                    · refine lv_iload hx hb dX6_addMore_251 (lv_at hl 11 rfl) ?_
                      refine lv_bipush (v := (nI 6)) hx hb dX6_addMore_253 (by decide +kernel) ?_
                      refine ln_icmp_ne (tgt := 263) hx hb ⟨by omega, by omega⟩ dX6_addMore_255 (by decide) (fun c_255 => ?_) (fun c_255 => ?_)
                      · refine lv_iload hx hb dX6_addMore_263 (lv_at hl 10 rfl) ?_
                        exact J4 y7 (by first | (rw [show t = 0 from by omega]; rfl) | (rw [show t = 1 from by omega]; rfl) | (rw [show t = 2 from by omega]; rfl) | (rw [show t = 3 from by omega]; rfl) | (rw [show t = 4 from by omega]; rfl) | (rw [show t = 5 from by omega]; rfl) | (rw [show t = 6 from by omega]; rfl) | (rw [show t = 7 from by omega]; rfl)) ls (lv_sub hl [0, 1, 2, 3, 4, 5, 6, 7, 8, 9, 10, 11] rfl)
                      · refine lv_iload hx hb dX6_addMore_258 (lv_at hl 9 rfl) ?_
                        refine lv_goto (tgt := 265) hx hb dX6_addMore_260 (by decide) ?_
                        exact J4 y6 (by first | (rw [show t = 0 from by omega]; rfl) | (rw [show t = 1 from by omega]; rfl) | (rw [show t = 2 from by omega]; rfl) | (rw [show t = 3 from by omega]; rfl) | (rw [show t = 4 from by omega]; rfl) | (rw [show t = 5 from by omega]; rfl) | (rw [show t = 6 from by omega]; rfl) | (rw [show t = 7 from by omega]; rfl)) ls (lv_sub hl [0, 1, 2, 3, 4, 5, 6, 7, 8, 9, 10, 11] rfl)
                    · refine lv_iload hx hb dX6_addMore_246 (lv_at hl 8 rfl) ?_
                      refine lv_goto (tgt := 265) hx hb dX6_addMore_248 (by decide) ?_
                      exact J4 y5 (by first | (rw [show t = 0 from by omega]; rfl) | (rw [show t = 1 from by omega]; rfl) | (rw [show t = 2 from by omega]; rfl) | (rw [show t = 3 from by omega]; rfl) | (rw [show t = 4 from by omega]; rfl) | (rw [show t = 5 from by omega]; rfl) | (rw [show t = 6 from by omega]; rfl) | (rw [show t = 7 from by omega]; rfl)) ls (lv_sub hl [0, 1, 2, 3, 4, 5, 6, 7, 8, 9, 10, 11] rfl)
                  · refine lv_iload hx hb dX6_addMore_235 (lv_at hl 7 rfl) ?_
                    refine lv_goto (tgt := 265) hx hb dX6_addMore_237 (by decide) ?_
                    exact J4 y4 (by first | (rw [show t = 0 from by omega]; rfl) | (rw [show t = 1 from by omega]; rfl) | (rw [show t = 2 from by omega]; rfl) | (rw [show t = 3 from by omega]; rfl) | (rw [show t = 4 from by omega]; rfl) | (rw [show t = 5 from by omega]; rfl) | (rw [show t = 6 from by omega]; rfl) | (rw [show t = 7 from by omega]; rfl)) ls (lv_sub hl [0, 1, 2, 3, 4, 5, 6, 7, 8, 9, 10, 11] rfl)
                · refine lv_iload hx hb dX6_addMore_224 (lv_at hl 6 rfl) ?_
                  refine lv_goto (tgt := 265) hx hb dX6_addMore_226 (by decide) ?_
                  exact J4 y3 (by first | (rw [show t = 0 from by omega]; rfl) | (rw [show t = 1 from by omega]; rfl) | (rw [show t = 2 from by omega]; rfl) | (rw [show t = 3 from by omega]; rfl) | (rw [show t = 4 from by omega]; rfl) | (rw [show t = 5 from by omega]; rfl) | (rw [show t = 6 from by omega]; rfl) | (rw [show t = 7 from by omega]; rfl)) ls (lv_sub hl [0, 1, 2, 3, 4, 5, 6, 7, 8, 9, 10, 11] rfl)
              · refine lv_iload hx hb dX6_addMore_213 (lv_at hl 5 rfl) ?_
                refine lv_goto (tgt := 265) hx hb dX6_addMore_215 (by decide) ?_
                exact J4 y2 (by first | (rw [show t = 0 from by omega]; rfl) | (rw [show t = 1 from by omega]; rfl) | (rw [show t = 2 from by omega]; rfl) | (rw [show t = 3 from by omega]; rfl) | (rw [show t = 4 from by omega]; rfl) | (rw [show t = 5 from by omega]; rfl) | (rw [show t = 6 from by omega]; rfl) | (rw [show t = 7 from by omega]; rfl)) ls (lv_sub hl [0, 1, 2, 3, 4, 5, 6, 7, 8, 9, 10, 11] rfl)
            · refine lv_iload hx hb dX6_addMore_202 (lv_at hl 4 rfl) ?_
              refine lv_goto (tgt := 265) hx hb dX6_addMore_204 (by decide) ?_
              exact J4 y1 (by first | (rw [show t = 0 from by omega]; rfl) | (rw [show t = 1 from by omega]; rfl) | (rw [show t = 2 from by omega]; rfl) | (rw [show t = 3 from by omega]; rfl) | (rw [show t = 4 from by omega]; rfl) | (rw [show t = 5 from by omega]; rfl) | (rw [show t = 6 from by omega]; rfl) | (rw [show t = 7 from by omega]; rfl)) ls (lv_sub hl [0, 1, 2, 3, 4, 5, 6, 7, 8, 9, 10, 11] rfl)
          · refine lv_iload_n hx hb dX6_addMore_192 rfl (lv_at hl 3 rfl) ?_
            refine lv_goto (tgt := 265) hx hb dX6_addMore_193 (by decide) ?_
            exact J4 y0 (by first | (rw [show t = 0 from by omega]; rfl) | (rw [show t = 1 from by omega]; rfl) | (rw [show t = 2 from by omega]; rfl) | (rw [show t = 3 from by omega]; rfl) | (rw [show t = 4 from by omega]; rfl) | (rw [show t = 5 from by omega]; rfl) | (rw [show t = 6 from by omega]; rfl) | (rw [show t = 7 from by omega]; rfl)) ls (lv_sub hl [0, 1, 2, 3, 4, 5, 6, 7, 8, 9, 10, 11] rfl)
    exact K3 _ 0 many (nI 0) fb fl fm fk (by omega) (rfl) (MR_cat0 hMR i v) (Nat.lt_succ_self _) H locs (hP.sub (ws' := [(m0, .inr (3, [.ref mb, .ref ml, .ref mm, .int (nI many), .int (nI 0), .ref mk])), (mb, .inl (T 0, 1920, .inl fb)), (ml, .inl (T 0, 6, .inl fl)), (mm, .inl (T 0, 600, .inl fm)), (mk, .inl (T 0, 320, .inl fk))]) [4, 0, 1, 2, 3] rfl) (hD.sub (ws' := [(m0, .inr (3, [.ref mb, .ref ml, .ref mm, .int (nI many), .int (nI 0), .ref mk])), (mb, .inl (T 0, 1920, .inl fb)), (ml, .inl (T 0, 6, .inl fl)), (mm, .inl (T 0, 600, .inl fm)), (mk, .inl (T 0, 320, .inl fk))]) [4, 0, 1, 2, 3] (by decide) rfl) hS ls (lv_sub hl [2, 3, 4, 5, 6, 7, 8, 9, 10, 11, 12, 0] rfl)
  refine lv_iconst (v := (nI 1)) hx hb dX6_addMore_0 (by decide +kernel) ?_
  refine lv_iload_n hx hb dX6_addMore_1 rfl (lv_at hl 2 rfl) ?_
  refine ln_icmp_gt (tgt := 124) hx hb ⟨by omega, by omega⟩ dX6_addMore_2 (by decide) (fun c_2 => ?_) (fun c_2 => ?_)
  · have hr9a : false = arB (nI m9) (gvN y0 y1 y2 y3 y4 y5 y6 y7) := (ar_m (Or.inl (by first | exact c_2 | exact nI_lt (by omega) (by omega)))).symm
    refine lv_iconst (v := nI 0) hx hb dX6_addMore_124 (by decide +kernel) ?_
    rw [show nI 0 = bI false from rfl]
    exact J1 false (hr9a) ls (lv_sub hl [0, 1, 2, 3, 4, 5, 6, 7, 8, 9, 10] rfl)
  · refine lv_iload_n hx hb dX6_addMore_5 rfl (lv_at hl 2 rfl) ?_
    refine lv_bipush (v := (nI 8)) hx hb dX6_addMore_6 (by decide +kernel) ?_
    refine ln_icmp_gt (tgt := 124) hx hb ⟨by omega, by omega⟩ dX6_addMore_8 (by decide) (fun c_8 => ?_) (fun c_8 => ?_)
    · have hr9a : false = arB (nI m9) (gvN y0 y1 y2 y3 y4 y5 y6 y7) := (ar_m (Or.inr (by first | exact Int32.not_le.mpr c_8 | exact nI_ge (by omega) (by omega)))).symm
      refine lv_iconst (v := nI 0) hx hb dX6_addMore_124 (by decide +kernel) ?_
      rw [show nI 0 = bI false from rfl]
      exact J1 false (hr9a) ls (lv_sub hl [0, 1, 2, 3, 4, 5, 6, 7, 8, 9, 10] rfl)
    · have hge : nI 1 ≤ (nI m9) := nI_le (by omega) (by omega)
      refine lv_aload_n hx hb dX6_addMore_11 rfl (lv_at hl 0 rfl) ?_
      refine lv_iload_n hx hb dX6_addMore_12 rfl (lv_at hl 3 rfl) ?_
      refine ro_V (As := [.int y0]) (rest := []) (wc := []) (r := .int (bI (byB y0))) ⟨hx, hb, hml, hown, hts⟩ (c_X6_isByte l D T g m0 y0) (cwV 1 hts gX6_addMore_X6_isByte rfl rfl rfl (by decide +kernel) ⟨Nat.le_of_ble_eq_true rfl, Nat.le_of_ble_eq_true rfl⟩) (va_recv hK hP (ci := 3) (q0 := 0) rfl rfl) hP hK hG hS [] rfl ⟨Nat.zero_le _, Nat.zero_le _⟩ rfl hl.1 (Nat.le_of_ble_eq_true rfl) dX6_addMore_13 rfl ?_
      refine lv_if_eq (tgt := 124) hx hb dX6_addMore_16 (by decide) (fun c_16 => ?_) (fun c_16 => ?_)
      · have hr9a : false = arB (nI m9) (gvN y0 y1 y2 y3 y4 y5 y6 y7) := (ar_n (k := 0) (by decide) (lt_le (by decide) (fun z => Int32.not_le.mpr z hge)) (bI_z.mp c_16)).symm
        refine lv_iconst (v := nI 0) hx hb dX6_addMore_124 (by decide +kernel) ?_
        rw [show nI 0 = bI false from rfl]
        exact J1 false (hr9a) ls (lv_sub hl [0, 1, 2, 3, 4, 5, 6, 7, 8, 9, 10] rfl)
      · have hk1 : ∀ j, j < 1 → nI j < (nI m9) → byB (gvN y0 y1 y2 y3 y4 y5 y6 y7 j) = true := fun j hj _ => by have e : j = 0 := (by omega); subst e; exact bI_nz.mp c_16
        have J12 : (∀ j, j < 2 → nI j < (nI m9) → byB (gvN y0 y1 y2 y3 y4 y5 y6 y7 j) = true) → ∀ ls : Array Slot, lv_has ls 13 [(0, .ref m0), (1, .int (nI i)), (2, .int (nI m9)), (3, .int y0), (4, .int y1), (5, .int y2), (6, .int y3), (7, .int y4), (8, .int y5), (9, .int y6), (10, .int y7)] → W p l e (headSpec wsX6_addMore ({ frames := 62, cells := 0, slots := 0, locals := 3100 } : Room)).room s m ([.ref m0, .int (nI i), .int (nI m9), .int y0, .int y1, .int y2, .int y3, .int y4, .int y5, .int y6, .int y7] : List Value).toArray below meth c s.heap [] 0 0 (MQ below (QM D T A (fun u : Nat × Int32 × (Nat → Int32) × (Nat → Int32) × (Nat → Int32) × (Nat → Int32) => some (.int (nI (N i + m9)))) (fun u : Nat × Int32 × (Nat → Int32) × (Nat → Int32) × (Nat → Int32) × (Nat → Int32) => u.2.1 = nI 0 ∧ MR u.2.2.2.1 u.2.2.1 (upA N i (N i + m9)) (upA Bw i (catN (Bw i) (N i) v))) (fun u : Nat × Int32 × (Nat → Int32) × (Nat → Int32) × (Nat → Int32) × (Nat → Int32) => [(m0, .inr (3, [.ref mb, .ref ml, .ref mm, .int (nI u.1), .int u.2.1, .ref mk])), (mb, .inl (T 0, 1920, .inl u.2.2.1)), (ml, .inl (T 0, 6, .inl u.2.2.2.1)), (mm, .inl (T 0, 600, .inl u.2.2.2.2.1)), (mk, .inl (T 0, 320, .inl u.2.2.2.2.2))])) ([.ref m0, .int (nI i), .int (nI m9), .int y0, .int y1, .int y2, .int y3, .int y4, .int y5, .int y6, .int y7] : List Value).toArray s 0 0 A) (F0 m 33 ls []) := by
          intro  hk2 ls hl
          have J13 : (∀ j, j < 3 → nI j < (nI m9) → byB (gvN y0 y1 y2 y3 y4 y5 y6 y7 j) = true) → ∀ ls : Array Slot, lv_has ls 13 [(0, .ref m0), (1, .int (nI i)), (2, .int (nI m9)), (3, .int y0), (4, .int y1), (5, .int y2), (6, .int y3), (7, .int y4), (8, .int y5), (9, .int y6), (10, .int y7)] → W p l e (headSpec wsX6_addMore ({ frames := 62, cells := 0, slots := 0, locals := 3100 } : Room)).room s m ([.ref m0, .int (nI i), .int (nI m9), .int y0, .int y1, .int y2, .int y3, .int y4, .int y5, .int y6, .int y7] : List Value).toArray below meth c s.heap [] 0 0 (MQ below (QM D T A (fun u : Nat × Int32 × (Nat → Int32) × (Nat → Int32) × (Nat → Int32) × (Nat → Int32) => some (.int (nI (N i + m9)))) (fun u : Nat × Int32 × (Nat → Int32) × (Nat → Int32) × (Nat → Int32) × (Nat → Int32) => u.2.1 = nI 0 ∧ MR u.2.2.2.1 u.2.2.1 (upA N i (N i + m9)) (upA Bw i (catN (Bw i) (N i) v))) (fun u : Nat × Int32 × (Nat → Int32) × (Nat → Int32) × (Nat → Int32) × (Nat → Int32) => [(m0, .inr (3, [.ref mb, .ref ml, .ref mm, .int (nI u.1), .int u.2.1, .ref mk])), (mb, .inl (T 0, 1920, .inl u.2.2.1)), (ml, .inl (T 0, 6, .inl u.2.2.2.1)), (mm, .inl (T 0, 600, .inl u.2.2.2.2.1)), (mk, .inl (T 0, 320, .inl u.2.2.2.2.2))])) ([.ref m0, .int (nI i), .int (nI m9), .int y0, .int y1, .int y2, .int y3, .int y4, .int y5, .int y6, .int y7] : List Value).toArray s 0 0 A) (F0 m 47 ls []) := by
            intro  hk3 ls hl
            have J14 : (∀ j, j < 4 → nI j < (nI m9) → byB (gvN y0 y1 y2 y3 y4 y5 y6 y7 j) = true) → ∀ ls : Array Slot, lv_has ls 13 [(0, .ref m0), (1, .int (nI i)), (2, .int (nI m9)), (3, .int y0), (4, .int y1), (5, .int y2), (6, .int y3), (7, .int y4), (8, .int y5), (9, .int y6), (10, .int y7)] → W p l e (headSpec wsX6_addMore ({ frames := 62, cells := 0, slots := 0, locals := 3100 } : Room)).room s m ([.ref m0, .int (nI i), .int (nI m9), .int y0, .int y1, .int y2, .int y3, .int y4, .int y5, .int y6, .int y7] : List Value).toArray below meth c s.heap [] 0 0 (MQ below (QM D T A (fun u : Nat × Int32 × (Nat → Int32) × (Nat → Int32) × (Nat → Int32) × (Nat → Int32) => some (.int (nI (N i + m9)))) (fun u : Nat × Int32 × (Nat → Int32) × (Nat → Int32) × (Nat → Int32) × (Nat → Int32) => u.2.1 = nI 0 ∧ MR u.2.2.2.1 u.2.2.1 (upA N i (N i + m9)) (upA Bw i (catN (Bw i) (N i) v))) (fun u : Nat × Int32 × (Nat → Int32) × (Nat → Int32) × (Nat → Int32) × (Nat → Int32) => [(m0, .inr (3, [.ref mb, .ref ml, .ref mm, .int (nI u.1), .int u.2.1, .ref mk])), (mb, .inl (T 0, 1920, .inl u.2.2.1)), (ml, .inl (T 0, 6, .inl u.2.2.2.1)), (mm, .inl (T 0, 600, .inl u.2.2.2.2.1)), (mk, .inl (T 0, 320, .inl u.2.2.2.2.2))])) ([.ref m0, .int (nI i), .int (nI m9), .int y0, .int y1, .int y2, .int y3, .int y4, .int y5, .int y6, .int y7] : List Value).toArray s 0 0 A) (F0 m 61 ls []) := by
              intro  hk4 ls hl
              have J15 : (∀ j, j < 5 → nI j < (nI m9) → byB (gvN y0 y1 y2 y3 y4 y5 y6 y7 j) = true) → ∀ ls : Array Slot, lv_has ls 13 [(0, .ref m0), (1, .int (nI i)), (2, .int (nI m9)), (3, .int y0), (4, .int y1), (5, .int y2), (6, .int y3), (7, .int y4), (8, .int y5), (9, .int y6), (10, .int y7)] → W p l e (headSpec wsX6_addMore ({ frames := 62, cells := 0, slots := 0, locals := 3100 } : Room)).room s m ([.ref m0, .int (nI i), .int (nI m9), .int y0, .int y1, .int y2, .int y3, .int y4, .int y5, .int y6, .int y7] : List Value).toArray below meth c s.heap [] 0 0 (MQ below (QM D T A (fun u : Nat × Int32 × (Nat → Int32) × (Nat → Int32) × (Nat → Int32) × (Nat → Int32) => some (.int (nI (N i + m9)))) (fun u : Nat × Int32 × (Nat → Int32) × (Nat → Int32) × (Nat → Int32) × (Nat → Int32) => u.2.1 = nI 0 ∧ MR u.2.2.2.1 u.2.2.1 (upA N i (N i + m9)) (upA Bw i (catN (Bw i) (N i) v))) (fun u : Nat × Int32 × (Nat → Int32) × (Nat → Int32) × (Nat → Int32) × (Nat → Int32) => [(m0, .inr (3, [.ref mb, .ref ml, .ref mm, .int (nI u.1), .int u.2.1, .ref mk])), (mb, .inl (T 0, 1920, .inl u.2.2.1)), (ml, .inl (T 0, 6, .inl u.2.2.2.1)), (mm, .inl (T 0, 600, .inl u.2.2.2.2.1)), (mk, .inl (T 0, 320, .inl u.2.2.2.2.2))])) ([.ref m0, .int (nI i), .int (nI m9), .int y0, .int y1, .int y2, .int y3, .int y4, .int y5, .int y6, .int y7] : List Value).toArray s 0 0 A) (F0 m 75 ls []) := by
                intro  hk5 ls hl
                have J16 : (∀ j, j < 6 → nI j < (nI m9) → byB (gvN y0 y1 y2 y3 y4 y5 y6 y7 j) = true) → ∀ ls : Array Slot, lv_has ls 13 [(0, .ref m0), (1, .int (nI i)), (2, .int (nI m9)), (3, .int y0), (4, .int y1), (5, .int y2), (6, .int y3), (7, .int y4), (8, .int y5), (9, .int y6), (10, .int y7)] → W p l e (headSpec wsX6_addMore ({ frames := 62, cells := 0, slots := 0, locals := 3100 } : Room)).room s m ([.ref m0, .int (nI i), .int (nI m9), .int y0, .int y1, .int y2, .int y3, .int y4, .int y5, .int y6, .int y7] : List Value).toArray below meth c s.heap [] 0 0 (MQ below (QM D T A (fun u : Nat × Int32 × (Nat → Int32) × (Nat → Int32) × (Nat → Int32) × (Nat → Int32) => some (.int (nI (N i + m9)))) (fun u : Nat × Int32 × (Nat → Int32) × (Nat → Int32) × (Nat → Int32) × (Nat → Int32) => u.2.1 = nI 0 ∧ MR u.2.2.2.1 u.2.2.1 (upA N i (N i + m9)) (upA Bw i (catN (Bw i) (N i) v))) (fun u : Nat × Int32 × (Nat → Int32) × (Nat → Int32) × (Nat → Int32) × (Nat → Int32) => [(m0, .inr (3, [.ref mb, .ref ml, .ref mm, .int (nI u.1), .int u.2.1, .ref mk])), (mb, .inl (T 0, 1920, .inl u.2.2.1)), (ml, .inl (T 0, 6, .inl u.2.2.2.1)), (mm, .inl (T 0, 600, .inl u.2.2.2.2.1)), (mk, .inl (T 0, 320, .inl u.2.2.2.2.2))])) ([.ref m0, .int (nI i), .int (nI m9), .int y0, .int y1, .int y2, .int y3, .int y4, .int y5, .int y6, .int y7] : List Value).toArray s 0 0 A) (F0 m 90 ls []) := by
                  intro  hk6 ls hl
                  have J17 : (∀ j, j < 7 → nI j < (nI m9) → byB (gvN y0 y1 y2 y3 y4 y5 y6 y7 j) = true) → ∀ ls : Array Slot, lv_has ls 13 [(0, .ref m0), (1, .int (nI i)), (2, .int (nI m9)), (3, .int y0), (4, .int y1), (5, .int y2), (6, .int y3), (7, .int y4), (8, .int y5), (9, .int y6), (10, .int y7)] → W p l e (headSpec wsX6_addMore ({ frames := 62, cells := 0, slots := 0, locals := 3100 } : Room)).room s m ([.ref m0, .int (nI i), .int (nI m9), .int y0, .int y1, .int y2, .int y3, .int y4, .int y5, .int y6, .int y7] : List Value).toArray below meth c s.heap [] 0 0 (MQ below (QM D T A (fun u : Nat × Int32 × (Nat → Int32) × (Nat → Int32) × (Nat → Int32) × (Nat → Int32) => some (.int (nI (N i + m9)))) (fun u : Nat × Int32 × (Nat → Int32) × (Nat → Int32) × (Nat → Int32) × (Nat → Int32) => u.2.1 = nI 0 ∧ MR u.2.2.2.1 u.2.2.1 (upA N i (N i + m9)) (upA Bw i (catN (Bw i) (N i) v))) (fun u : Nat × Int32 × (Nat → Int32) × (Nat → Int32) × (Nat → Int32) × (Nat → Int32) => [(m0, .inr (3, [.ref mb, .ref ml, .ref mm, .int (nI u.1), .int u.2.1, .ref mk])), (mb, .inl (T 0, 1920, .inl u.2.2.1)), (ml, .inl (T 0, 6, .inl u.2.2.2.1)), (mm, .inl (T 0, 600, .inl u.2.2.2.2.1)), (mk, .inl (T 0, 320, .inl u.2.2.2.2.2))])) ([.ref m0, .int (nI i), .int (nI m9), .int y0, .int y1, .int y2, .int y3, .int y4, .int y5, .int y6, .int y7] : List Value).toArray s 0 0 A) (F0 m 105 ls []) := by
                    intro  hk7 ls hl
                    have J18 : (∀ j, j < 8 → nI j < (nI m9) → byB (gvN y0 y1 y2 y3 y4 y5 y6 y7 j) = true) → ∀ ls : Array Slot, lv_has ls 13 [(0, .ref m0), (1, .int (nI i)), (2, .int (nI m9)), (3, .int y0), (4, .int y1), (5, .int y2), (6, .int y3), (7, .int y4), (8, .int y5), (9, .int y6), (10, .int y7)] → W p l e (headSpec wsX6_addMore ({ frames := 62, cells := 0, slots := 0, locals := 3100 } : Room)).room s m ([.ref m0, .int (nI i), .int (nI m9), .int y0, .int y1, .int y2, .int y3, .int y4, .int y5, .int y6, .int y7] : List Value).toArray below meth c s.heap [] 0 0 (MQ below (QM D T A (fun u : Nat × Int32 × (Nat → Int32) × (Nat → Int32) × (Nat → Int32) × (Nat → Int32) => some (.int (nI (N i + m9)))) (fun u : Nat × Int32 × (Nat → Int32) × (Nat → Int32) × (Nat → Int32) × (Nat → Int32) => u.2.1 = nI 0 ∧ MR u.2.2.2.1 u.2.2.1 (upA N i (N i + m9)) (upA Bw i (catN (Bw i) (N i) v))) (fun u : Nat × Int32 × (Nat → Int32) × (Nat → Int32) × (Nat → Int32) × (Nat → Int32) => [(m0, .inr (3, [.ref mb, .ref ml, .ref mm, .int (nI u.1), .int u.2.1, .ref mk])), (mb, .inl (T 0, 1920, .inl u.2.2.1)), (ml, .inl (T 0, 6, .inl u.2.2.2.1)), (mm, .inl (T 0, 600, .inl u.2.2.2.2.1)), (mk, .inl (T 0, 320, .inl u.2.2.2.2.2))])) ([.ref m0, .int (nI i), .int (nI m9), .int y0, .int y1, .int y2, .int y3, .int y4, .int y5, .int y6, .int y7] : List Value).toArray s 0 0 A) (F0 m 120 ls []) := by
                      intro  hk8 ls hl
                      have hr9a : true = arB (nI m9) (gvN y0 y1 y2 y3 y4 y5 y6 y7) := (@decide_eq_true _ (Classical.propDecidable _) ⟨hge, nI_le (by omega) (by decide), hk8⟩).symm
                      refine lv_iconst (v := (nI 1)) hx hb dX6_addMore_120 (by decide +kernel) ?_
                      refine lv_goto (tgt := 125) hx hb dX6_addMore_121 (by decide) ?_
                      rw [show nI 1 = bI true from rfl]
                      exact J1 true (hr9a) ls (lv_sub hl [0, 1, 2, 3, 4, 5, 6, 7, 8, 9, 10] rfl)
                    refine lv_iload_n hx hb dX6_addMore_105 rfl (lv_at hl 2 rfl) ?_
                    refine lv_bipush (v := (nI 8)) hx hb dX6_addMore_106 (by decide +kernel) ?_
                    refine ln_icmp_lt (tgt := 120) hx hb ⟨by omega, by omega⟩ dX6_addMore_108 (by decide) (fun c_108 => ?_) (fun c_108 => ?_)
                    · exact J18  (ar_s hk7 (by first | exact fun _ => bI_nz.mp c_117 | exact fun z => absurd z (lt_le' (by decide) c_108) | exact fun z => absurd ((nI_ltI (by omega) (by omega)).mp z) (by omega))) ls (lv_sub hl [0, 1, 2, 3, 4, 5, 6, 7, 8, 9, 10] rfl)
                    · refine lv_aload_n hx hb dX6_addMore_111 rfl (lv_at hl 0 rfl) ?_
                      refine lv_iload hx hb dX6_addMore_112 (lv_at hl 10 rfl) ?_
                      refine ro_V (As := [.int y7]) (rest := []) (wc := []) (r := .int (bI (byB y7))) ⟨hx, hb, hml, hown, hts⟩ (c_X6_isByte l D T g m0 y7) (cwV 1 hts gX6_addMore_X6_isByte rfl rfl rfl (by decide +kernel) ⟨Nat.le_of_ble_eq_true rfl, Nat.le_of_ble_eq_true rfl⟩) (va_recv hK hP (ci := 3) (q0 := 0) rfl rfl) hP hK hG hS [] rfl ⟨Nat.zero_le _, Nat.zero_le _⟩ rfl hl.1 (Nat.le_of_ble_eq_true rfl) dX6_addMore_114 rfl ?_
                      refine lv_if_eq (tgt := 124) hx hb dX6_addMore_117 (by decide) (fun c_117 => ?_) (fun c_117 => ?_)
                      · have hr9a : false = arB (nI m9) (gvN y0 y1 y2 y3 y4 y5 y6 y7) := (ar_n (k := 7) (by decide) (by first | exact lt_le (by decide) c_108 | exact nI_lt (by omega) (by omega)) (bI_z.mp c_117)).symm
                        refine lv_iconst (v := nI 0) hx hb dX6_addMore_124 (by decide +kernel) ?_
                        rw [show nI 0 = bI false from rfl]
                        exact J1 false (hr9a) ls (lv_sub hl [0, 1, 2, 3, 4, 5, 6, 7, 8, 9, 10] rfl)
                      · exact J18  (ar_s hk7 (by first | exact fun _ => bI_nz.mp c_117 | exact fun z => absurd z (lt_le' (by decide) c_108) | exact fun z => absurd ((nI_ltI (by omega) (by omega)).mp z) (by omega))) ls (lv_sub hl [0, 1, 2, 3, 4, 5, 6, 7, 8, 9, 10] rfl)
                  refine lv_iload_n hx hb dX6_addMore_90 rfl (lv_at hl 2 rfl) ?_
                  refine lv_bipush (v := (nI 7)) hx hb dX6_addMore_91 (by decide +kernel) ?_
                  refine ln_icmp_lt (tgt := 105) hx hb ⟨by omega, by omega⟩ dX6_addMore_93 (by decide) (fun c_93 => ?_) (fun c_93 => ?_)
                  · exact J17  (ar_s hk6 (by first | exact fun _ => bI_nz.mp c_102 | exact fun z => absurd z (lt_le' (by decide) c_93) | exact fun z => absurd ((nI_ltI (by omega) (by omega)).mp z) (by omega))) ls (lv_sub hl [0, 1, 2, 3, 4, 5, 6, 7, 8, 9, 10] rfl)
                  · refine lv_aload_n hx hb dX6_addMore_96 rfl (lv_at hl 0 rfl) ?_
                    refine lv_iload hx hb dX6_addMore_97 (lv_at hl 9 rfl) ?_
                    refine ro_V (As := [.int y6]) (rest := []) (wc := []) (r := .int (bI (byB y6))) ⟨hx, hb, hml, hown, hts⟩ (c_X6_isByte l D T g m0 y6) (cwV 1 hts gX6_addMore_X6_isByte rfl rfl rfl (by decide +kernel) ⟨Nat.le_of_ble_eq_true rfl, Nat.le_of_ble_eq_true rfl⟩) (va_recv hK hP (ci := 3) (q0 := 0) rfl rfl) hP hK hG hS [] rfl ⟨Nat.zero_le _, Nat.zero_le _⟩ rfl hl.1 (Nat.le_of_ble_eq_true rfl) dX6_addMore_99 rfl ?_
                    refine lv_if_eq (tgt := 124) hx hb dX6_addMore_102 (by decide) (fun c_102 => ?_) (fun c_102 => ?_)
                    · have hr9a : false = arB (nI m9) (gvN y0 y1 y2 y3 y4 y5 y6 y7) := (ar_n (k := 6) (by decide) (by first | exact lt_le (by decide) c_93 | exact nI_lt (by omega) (by omega)) (bI_z.mp c_102)).symm
                      refine lv_iconst (v := nI 0) hx hb dX6_addMore_124 (by decide +kernel) ?_
                      rw [show nI 0 = bI false from rfl]
                      exact J1 false (hr9a) ls (lv_sub hl [0, 1, 2, 3, 4, 5, 6, 7, 8, 9, 10] rfl)
                    · exact J17  (ar_s hk6 (by first | exact fun _ => bI_nz.mp c_102 | exact fun z => absurd z (lt_le' (by decide) c_93) | exact fun z => absurd ((nI_ltI (by omega) (by omega)).mp z) (by omega))) ls (lv_sub hl [0, 1, 2, 3, 4, 5, 6, 7, 8, 9, 10] rfl)
                refine lv_iload_n hx hb dX6_addMore_75 rfl (lv_at hl 2 rfl) ?_
                refine lv_bipush (v := (nI 6)) hx hb dX6_addMore_76 (by decide +kernel) ?_
                refine ln_icmp_lt (tgt := 90) hx hb ⟨by omega, by omega⟩ dX6_addMore_78 (by decide) (fun c_78 => ?_) (fun c_78 => ?_)
                · exact J16  (ar_s hk5 (by first | exact fun _ => bI_nz.mp c_87 | exact fun z => absurd z (lt_le' (by decide) c_78) | exact fun z => absurd ((nI_ltI (by omega) (by omega)).mp z) (by omega))) ls (lv_sub hl [0, 1, 2, 3, 4, 5, 6, 7, 8, 9, 10] rfl)
                · refine lv_aload_n hx hb dX6_addMore_81 rfl (lv_at hl 0 rfl) ?_
                  refine lv_iload hx hb dX6_addMore_82 (lv_at hl 8 rfl) ?_
                  refine ro_V (As := [.int y5]) (rest := []) (wc := []) (r := .int (bI (byB y5))) ⟨hx, hb, hml, hown, hts⟩ (c_X6_isByte l D T g m0 y5) (cwV 1 hts gX6_addMore_X6_isByte rfl rfl rfl (by decide +kernel) ⟨Nat.le_of_ble_eq_true rfl, Nat.le_of_ble_eq_true rfl⟩) (va_recv hK hP (ci := 3) (q0 := 0) rfl rfl) hP hK hG hS [] rfl ⟨Nat.zero_le _, Nat.zero_le _⟩ rfl hl.1 (Nat.le_of_ble_eq_true rfl) dX6_addMore_84 rfl ?_
                  refine lv_if_eq (tgt := 124) hx hb dX6_addMore_87 (by decide) (fun c_87 => ?_) (fun c_87 => ?_)
                  · have hr9a : false = arB (nI m9) (gvN y0 y1 y2 y3 y4 y5 y6 y7) := (ar_n (k := 5) (by decide) (by first | exact lt_le (by decide) c_78 | exact nI_lt (by omega) (by omega)) (bI_z.mp c_87)).symm
                    refine lv_iconst (v := nI 0) hx hb dX6_addMore_124 (by decide +kernel) ?_
                    rw [show nI 0 = bI false from rfl]
                    exact J1 false (hr9a) ls (lv_sub hl [0, 1, 2, 3, 4, 5, 6, 7, 8, 9, 10] rfl)
                  · exact J16  (ar_s hk5 (by first | exact fun _ => bI_nz.mp c_87 | exact fun z => absurd z (lt_le' (by decide) c_78) | exact fun z => absurd ((nI_ltI (by omega) (by omega)).mp z) (by omega))) ls (lv_sub hl [0, 1, 2, 3, 4, 5, 6, 7, 8, 9, 10] rfl)
              refine lv_iload_n hx hb dX6_addMore_61 rfl (lv_at hl 2 rfl) ?_
              refine lv_iconst (v := (nI 5)) hx hb dX6_addMore_62 (by decide +kernel) ?_
              refine ln_icmp_lt (tgt := 75) hx hb ⟨by omega, by omega⟩ dX6_addMore_63 (by decide) (fun c_63 => ?_) (fun c_63 => ?_)
              · exact J15  (ar_s hk4 (by first | exact fun _ => bI_nz.mp c_72 | exact fun z => absurd z (lt_le' (by decide) c_63) | exact fun z => absurd ((nI_ltI (by omega) (by omega)).mp z) (by omega))) ls (lv_sub hl [0, 1, 2, 3, 4, 5, 6, 7, 8, 9, 10] rfl)
              · refine lv_aload_n hx hb dX6_addMore_66 rfl (lv_at hl 0 rfl) ?_
                refine lv_iload hx hb dX6_addMore_67 (lv_at hl 7 rfl) ?_
                refine ro_V (As := [.int y4]) (rest := []) (wc := []) (r := .int (bI (byB y4))) ⟨hx, hb, hml, hown, hts⟩ (c_X6_isByte l D T g m0 y4) (cwV 1 hts gX6_addMore_X6_isByte rfl rfl rfl (by decide +kernel) ⟨Nat.le_of_ble_eq_true rfl, Nat.le_of_ble_eq_true rfl⟩) (va_recv hK hP (ci := 3) (q0 := 0) rfl rfl) hP hK hG hS [] rfl ⟨Nat.zero_le _, Nat.zero_le _⟩ rfl hl.1 (Nat.le_of_ble_eq_true rfl) dX6_addMore_69 rfl ?_
                refine lv_if_eq (tgt := 124) hx hb dX6_addMore_72 (by decide) (fun c_72 => ?_) (fun c_72 => ?_)
                · have hr9a : false = arB (nI m9) (gvN y0 y1 y2 y3 y4 y5 y6 y7) := (ar_n (k := 4) (by decide) (by first | exact lt_le (by decide) c_63 | exact nI_lt (by omega) (by omega)) (bI_z.mp c_72)).symm
                  refine lv_iconst (v := nI 0) hx hb dX6_addMore_124 (by decide +kernel) ?_
                  rw [show nI 0 = bI false from rfl]
                  exact J1 false (hr9a) ls (lv_sub hl [0, 1, 2, 3, 4, 5, 6, 7, 8, 9, 10] rfl)
                · exact J15  (ar_s hk4 (by first | exact fun _ => bI_nz.mp c_72 | exact fun z => absurd z (lt_le' (by decide) c_63) | exact fun z => absurd ((nI_ltI (by omega) (by omega)).mp z) (by omega))) ls (lv_sub hl [0, 1, 2, 3, 4, 5, 6, 7, 8, 9, 10] rfl)
            refine lv_iload_n hx hb dX6_addMore_47 rfl (lv_at hl 2 rfl) ?_
            refine lv_iconst (v := (nI 4)) hx hb dX6_addMore_48 (by decide +kernel) ?_
            refine ln_icmp_lt (tgt := 61) hx hb ⟨by omega, by omega⟩ dX6_addMore_49 (by decide) (fun c_49 => ?_) (fun c_49 => ?_)
            · exact J14  (ar_s hk3 (by first | exact fun _ => bI_nz.mp c_58 | exact fun z => absurd z (lt_le' (by decide) c_49) | exact fun z => absurd ((nI_ltI (by omega) (by omega)).mp z) (by omega))) ls (lv_sub hl [0, 1, 2, 3, 4, 5, 6, 7, 8, 9, 10] rfl)
            · refine lv_aload_n hx hb dX6_addMore_52 rfl (lv_at hl 0 rfl) ?_
              refine lv_iload hx hb dX6_addMore_53 (lv_at hl 6 rfl) ?_
              refine ro_V (As := [.int y3]) (rest := []) (wc := []) (r := .int (bI (byB y3))) ⟨hx, hb, hml, hown, hts⟩ (c_X6_isByte l D T g m0 y3) (cwV 1 hts gX6_addMore_X6_isByte rfl rfl rfl (by decide +kernel) ⟨Nat.le_of_ble_eq_true rfl, Nat.le_of_ble_eq_true rfl⟩) (va_recv hK hP (ci := 3) (q0 := 0) rfl rfl) hP hK hG hS [] rfl ⟨Nat.zero_le _, Nat.zero_le _⟩ rfl hl.1 (Nat.le_of_ble_eq_true rfl) dX6_addMore_55 rfl ?_
              refine lv_if_eq (tgt := 124) hx hb dX6_addMore_58 (by decide) (fun c_58 => ?_) (fun c_58 => ?_)
              · have hr9a : false = arB (nI m9) (gvN y0 y1 y2 y3 y4 y5 y6 y7) := (ar_n (k := 3) (by decide) (by first | exact lt_le (by decide) c_49 | exact nI_lt (by omega) (by omega)) (bI_z.mp c_58)).symm
                refine lv_iconst (v := nI 0) hx hb dX6_addMore_124 (by decide +kernel) ?_
                rw [show nI 0 = bI false from rfl]
                exact J1 false (hr9a) ls (lv_sub hl [0, 1, 2, 3, 4, 5, 6, 7, 8, 9, 10] rfl)
              · exact J14  (ar_s hk3 (by first | exact fun _ => bI_nz.mp c_58 | exact fun z => absurd z (lt_le' (by decide) c_49) | exact fun z => absurd ((nI_ltI (by omega) (by omega)).mp z) (by omega))) ls (lv_sub hl [0, 1, 2, 3, 4, 5, 6, 7, 8, 9, 10] rfl)
          refine lv_iload_n hx hb dX6_addMore_33 rfl (lv_at hl 2 rfl) ?_
          refine lv_iconst (v := (nI 3)) hx hb dX6_addMore_34 (by decide +kernel) ?_
          refine ln_icmp_lt (tgt := 47) hx hb ⟨by omega, by omega⟩ dX6_addMore_35 (by decide) (fun c_35 => ?_) (fun c_35 => ?_)
          · exact J13  (ar_s hk2 (by first | exact fun _ => bI_nz.mp c_44 | exact fun z => absurd z (lt_le' (by decide) c_35) | exact fun z => absurd ((nI_ltI (by omega) (by omega)).mp z) (by omega))) ls (lv_sub hl [0, 1, 2, 3, 4, 5, 6, 7, 8, 9, 10] rfl)
          · refine lv_aload_n hx hb dX6_addMore_38 rfl (lv_at hl 0 rfl) ?_
            refine lv_iload hx hb dX6_addMore_39 (lv_at hl 5 rfl) ?_
            refine ro_V (As := [.int y2]) (rest := []) (wc := []) (r := .int (bI (byB y2))) ⟨hx, hb, hml, hown, hts⟩ (c_X6_isByte l D T g m0 y2) (cwV 1 hts gX6_addMore_X6_isByte rfl rfl rfl (by decide +kernel) ⟨Nat.le_of_ble_eq_true rfl, Nat.le_of_ble_eq_true rfl⟩) (va_recv hK hP (ci := 3) (q0 := 0) rfl rfl) hP hK hG hS [] rfl ⟨Nat.zero_le _, Nat.zero_le _⟩ rfl hl.1 (Nat.le_of_ble_eq_true rfl) dX6_addMore_41 rfl ?_
            refine lv_if_eq (tgt := 124) hx hb dX6_addMore_44 (by decide) (fun c_44 => ?_) (fun c_44 => ?_)
            · have hr9a : false = arB (nI m9) (gvN y0 y1 y2 y3 y4 y5 y6 y7) := (ar_n (k := 2) (by decide) (by first | exact lt_le (by decide) c_35 | exact nI_lt (by omega) (by omega)) (bI_z.mp c_44)).symm
              refine lv_iconst (v := nI 0) hx hb dX6_addMore_124 (by decide +kernel) ?_
              rw [show nI 0 = bI false from rfl]
              exact J1 false (hr9a) ls (lv_sub hl [0, 1, 2, 3, 4, 5, 6, 7, 8, 9, 10] rfl)
            · exact J13  (ar_s hk2 (by first | exact fun _ => bI_nz.mp c_44 | exact fun z => absurd z (lt_le' (by decide) c_35) | exact fun z => absurd ((nI_ltI (by omega) (by omega)).mp z) (by omega))) ls (lv_sub hl [0, 1, 2, 3, 4, 5, 6, 7, 8, 9, 10] rfl)
        refine lv_iload_n hx hb dX6_addMore_19 rfl (lv_at hl 2 rfl) ?_
        refine lv_iconst (v := (nI 2)) hx hb dX6_addMore_20 (by decide +kernel) ?_
        refine ln_icmp_lt (tgt := 33) hx hb ⟨by omega, by omega⟩ dX6_addMore_21 (by decide) (fun c_21 => ?_) (fun c_21 => ?_)
        · exact J12  (ar_s hk1 (by first | exact fun _ => bI_nz.mp c_30 | exact fun z => absurd z (lt_le' (by decide) c_21) | exact fun z => absurd ((nI_ltI (by omega) (by omega)).mp z) (by omega))) ls (lv_sub hl [0, 1, 2, 3, 4, 5, 6, 7, 8, 9, 10] rfl)
        · refine lv_aload_n hx hb dX6_addMore_24 rfl (lv_at hl 0 rfl) ?_
          refine lv_iload hx hb dX6_addMore_25 (lv_at hl 4 rfl) ?_
          refine ro_V (As := [.int y1]) (rest := []) (wc := []) (r := .int (bI (byB y1))) ⟨hx, hb, hml, hown, hts⟩ (c_X6_isByte l D T g m0 y1) (cwV 1 hts gX6_addMore_X6_isByte rfl rfl rfl (by decide +kernel) ⟨Nat.le_of_ble_eq_true rfl, Nat.le_of_ble_eq_true rfl⟩) (va_recv hK hP (ci := 3) (q0 := 0) rfl rfl) hP hK hG hS [] rfl ⟨Nat.zero_le _, Nat.zero_le _⟩ rfl hl.1 (Nat.le_of_ble_eq_true rfl) dX6_addMore_27 rfl ?_
          refine lv_if_eq (tgt := 124) hx hb dX6_addMore_30 (by decide) (fun c_30 => ?_) (fun c_30 => ?_)
          · have hr9a : false = arB (nI m9) (gvN y0 y1 y2 y3 y4 y5 y6 y7) := (ar_n (k := 1) (by decide) (by first | exact lt_le (by decide) c_21 | exact nI_lt (by omega) (by omega)) (bI_z.mp c_30)).symm
            refine lv_iconst (v := nI 0) hx hb dX6_addMore_124 (by decide +kernel) ?_
            rw [show nI 0 = bI false from rfl]
            exact J1 false (hr9a) ls (lv_sub hl [0, 1, 2, 3, 4, 5, 6, 7, 8, 9, 10] rfl)
          · exact J12  (ar_s hk1 (by first | exact fun _ => bI_nz.mp c_30 | exact fun z => absurd z (lt_le' (by decide) c_21) | exact fun z => absurd ((nI_ltI (by omega) (by omega)).mp z) (by omega))) ls (lv_sub hl [0, 1, 2, 3, 4, 5, 6, 7, 8, 9, 10] rfl)
