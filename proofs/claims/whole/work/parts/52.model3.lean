theorem wro_iff {k n : Nat} {b : Nat → Nat} : wroB k n b = true ↔ (¬ k = 2 ∧ ¬ ctN (ltB k b) (fF n b) = fF n b) ∨ (ctN (ltB k b) (fF n b) % 4 = 1 ∨ (¬ mF n b = 0 ∧ ctN (ltB k b) (fF n b) % 4 = 0) ∨ (mF n b = 1 ∧ duN (ctN (ltB k b) (fF n b)) = 2) ∨ (¬ k = 2 ∧ duN (ctN (ltB k b) (fF n b)) < mF n b)) := by
  unfold wroB wrgB
  rw [Bool.or_eq_true, decide_eq_true_iff, decide_eq_true_iff]
  exact Iff.rfl
theorem unt_iff {k n : Nat} {b : Nat → Nat} : untB k n b = true ↔ (utB k b (fF n b) (n - fF n b - 1)).2 = true ∨ (k = 2 ∧ duN (ctN (ltB k b) (fF n b)) < mF n b) ∨ (duN (ctN (ltB k b) (fF n b)) = 2 ∧ ¬ lsW k b (fF n b) % 2 ^ 4 = 0) ∨ (duN (ctN (ltB k b) (fF n b)) = 1 ∧ ¬ lsW k b (fF n b) % 2 ^ 2 = 0) := by
  unfold untB hbB
  rw [Bool.or_eq_true, Bool.or_eq_true, decide_eq_true_iff, decide_eq_true_iff]
  exact Iff.rfl
theorem MR_back {fl fb G : Nat → Int32} {N : Nat → Nat} {Bw : Nat → Nat → Nat} {i n x : Nat} {b : Nat → Nat} (h : MR fl fb N Bw) (hi : i < 6) (hn : n = N i) (hb : b = Bw i) (h1 : ∀ q, 320 * i ≤ q → q < 320 * i + n → G q = fb q) (h2 : ∀ q, q < 320 * i ∨ 320 * i + 320 ≤ q → G q = fb q) : MR (upd (upd fl i (nI x)) i (nI n)) G N Bw := by
  intro j hj
  obtain ⟨a1, a2, a3⟩ := h j hj
  by_cases e : j = i
  · subst e
    refine ⟨by rw [pk_us, hn], a2, fun y hy => ?_⟩
    rw [h1 _ (by omega) (by omega)]; exact a3 y hy
  · refine ⟨by rw [pk_un e, pk_un e]; exact a1, a2, fun y hy => ?_⟩
    rw [h2 _ (by omega)]; exact a3 y hy
theorem no_of {b : Bool} (h : ¬ b = true) : b = false := by cases b; rfl; exact absurd rfl h
set_option maxHeartbeats 4000000 in
set_option maxRecDepth 100000 in
/-- what would come of reading -/
theorem c_X6_looks (l : Launch) (D : va_G) (T : Nat → ClassId) (g : Nat → Nat) (m0 : Nat) (mb : Nat) (ml : Nat) (mm : Nat) (mk : Nat) (many : Nat) (th : Int32) (fb : Nat → Int32) (fl : Nat → Int32) (i : Nat) (n : Nat) (b : Nat → Nat) (hi : i < 6) (hln : fl i = nI n) (hrw : RW fb i n b) (k : Nat) (hk : k < 3) : RO l yX6_looks wsX6_looks ({ frames := 2, cells := 0, slots := 0, locals := 46 } : Room) D T g [.ref m0, .int (nI i), .int (nI k)] [(m0, .inr (3, [.ref mb, .ref ml, .ref mm, .int (nI many), .int th, .ref mk])), (ml, .inl (T 0, 6, .inl fl)), (mb, .inl (T 0, 1920, .inl fb))] (.int (tlI k n b)) := by
  refine Met.ofW (cc := cX6_looks) (maxL := 12) (ret := (some .int)) (by decide) rfl ?_
  intro p e s m args below meth c s₁ B hml hv
  obtain ⟨rfl, hP, hK, hG⟩ := hv
  have hx := B.exec
  have hb := B.bytes
  have hr := B.returns
  have hts := atoms_spec (ws := wsX6_looks) B.pre
  have hown : s.vm.findClass RX6 = some m.cls := findClass_of_methodNamed B.named
  have hlocks := B.notSynchronized
  have hi_X6 : ∀ w ∈ wsX60, w ∈ wsX6_looks := by decide +kernel
  have hS : va_S (fun _ => False) s.heap s.heap [] := va_S.rf
  have hl := lv_entry ([.ref m0, .int (nI i), .int (nI k)]) (n := 12) (Nat.le_of_ble_eq_true rfl)
  rw [lg_entry_eq]
  generalize (lg_sl ([.ref m0, .int (nI i), .int (nI k)]) ++ List.replicate (12 - (lg_sl ([.ref m0, .int (nI i), .int (nI k)])).length) Slot.unset).toArray = ls at hl ⊢
  have hl : lv_has ls 12 [(0, .ref m0), (1, .int (nI i)), (2, .int (nI k))] := hl
  have hn := hrw.1
  have hf8 := fF_le n b
  have hb0 : ∀ j, j < n → b j < 256 := fun j hj => (hrw.2 j hj).2
  have hl8 := ctN_le (ltB k b) (fF n b)
  have hs8 := lsW_lt k b (fF n b)
  have hc9 := ctN_le (eqB b) n
  have hmn := mF_le n b
  have hd3 := duN_le (ctN (ltB k b) (fF n b))
  refine lv_aload_n hx hb dX6_looks_0 rfl (lv_at hl 0 rfl) ?_
  refine va_get (D := D) (ci := 3) (v := .ref ml) (C := RX6) (T := TX6) (N := 6) hx hb hts hi_X6 hown hK hP 0 rfl rfl 1 (by decide) (hts _ (List.mem_of_getElem? (i := 1) rfl)) (fun _ h9 => h9) rfl dX6_looks_1 ?_
  refine lv_iload_n hx hb dX6_looks_4 rfl (lv_at hl 1 rfl) ?_
  refine ln_iald hx hb hK hP 1 0 rfl rfl ⟨by omega, by omega⟩ dX6_looks_5 ?_
  rw [show fl i = nI n from hln]
  refine lv_istore_n (lv' := [(3, .int (nI n)), (0, .ref m0), (1, .int (nI i)), (2, .int (nI k))]) hx hb dX6_looks_6 rfl hl (by decide) rfl (fun ls hl => ?_)
  refine lv_aload_n hx hb dX6_looks_7 rfl (lv_at hl 1 rfl) ?_
  refine va_get (D := D) (ci := 3) (v := .ref ml) (C := RX6) (T := TX6) (N := 6) hx hb hts hi_X6 hown hK hP 0 rfl rfl 1 (by decide) (hts _ (List.mem_of_getElem? (i := 1) rfl)) (fun _ h9 => h9) rfl dX6_looks_8 ?_
  refine lv_iload_n hx hb dX6_looks_11 rfl (lv_at hl 2 rfl) ?_
  refine ln_iald hx hb hK hP 1 0 rfl rfl ⟨by omega, by omega⟩ dX6_looks_12 ?_
  rw [show fl i = nI n from hln]
  refine lv_iconst (v := (nI 1)) hx hb dX6_looks_13 (by decide +kernel) ?_
  refine lv_isub hx hb dX6_looks_14 ?_
  rw [show (nI n) - (nI 1) = (pd n) from rfl]
  refine lv_istore (lv' := [(4, .int (pd n)), (3, .int (nI n)), (0, .ref m0), (1, .int (nI i)), (2, .int (nI k))]) hx hb dX6_looks_15 hl (by decide) rfl (fun ls hl => ?_)
  have K1 : ∀ (N9 : Nat) (j : Nat) (x : Nat), (j ≤ x ∧ x ≤ n) → (∀ y, j ≤ y → y < x → eqB b y = false) → (x = n ∨ eqB b x = true) → j < N9 → ∀ ls : Array Slot, lv_has ls 12 [(0, .ref m0), (1, .int (nI i)), (2, .int (nI k)), (3, .int (nI x)), (4, .int (pd j))] → W p l e (headSpec wsX6_looks ({ frames := 2, cells := 0, slots := 0, locals := 46 } : Room)).room s m ([.ref m0, .int (nI i), .int (nI k)] : List Value).toArray below meth c s.heap [] 0 0 (MQ below (k2_QcV (.int (tlI k n b))) ([.ref m0, .int (nI i), .int (nI k)] : List Value).toArray s 0 0 (fun _ => False)) (F0 m 17 ls []) := by
    intro N9
    induction N9 with
    | zero => intro j x hj hq hxn h9; exact absurd h9 (Nat.not_lt_zero _)
    | succ N9 ih_17 =>
      intro j x hj hq hxn h9 ls hl
      refine lv_iload hx hb dX6_looks_17 (lv_at hl 4 rfl) ?_
      refine lv_if_lt (tgt := 47) hx hb dX6_looks_19 (by decide) (fun c_19 => ?_) (fun c_19 => ?_)
      · have e9 := pd_neg (by omega) c_19
        subst e9
        have hxf : x = fF n b := (fsN_eq hj.2 (fun y hy => hq y (Nat.zero_le _) hy) hxn).symm
        subst hxf
        refine lv_iconst (v := (nI 0)) hx hb dX6_looks_47 (by decide +kernel) ?_
        refine lv_istore (lv' := [(4, .int (nI 0)), (0, .ref m0), (1, .int (nI i)), (2, .int (nI k)), (3, .int (nI (fF n b)))]) hx hb dX6_looks_48 hl (by decide) rfl (fun ls hl => ?_)
        refine lv_iconst (v := (nI 0)) hx hb dX6_looks_50 (by decide +kernel) ?_
        refine lv_istore (lv' := [(5, .int (nI 0)), (4, .int (nI 0)), (0, .ref m0), (1, .int (nI i)), (2, .int (nI k)), (3, .int (nI (fF n b)))]) hx hb dX6_looks_51 hl (by decide) rfl (fun ls hl => ?_)
        refine lv_iconst (v := (nI 0)) hx hb dX6_looks_53 (by decide +kernel) ?_
        refine lv_istore (lv' := [(6, .int (nI 0)), (5, .int (nI 0)), (4, .int (nI 0)), (0, .ref m0), (1, .int (nI i)), (2, .int (nI k)), (3, .int (nI (fF n b)))]) hx hb dX6_looks_54 hl (by decide) rfl (fun ls hl => ?_)
        refine lv_iconst (v := (nI 0)) hx hb dX6_looks_56 (by decide +kernel) ?_
        refine lv_istore (lv' := [(7, .int (nI 0)), (6, .int (nI 0)), (5, .int (nI 0)), (4, .int (nI 0)), (0, .ref m0), (1, .int (nI i)), (2, .int (nI k)), (3, .int (nI (fF n b)))]) hx hb dX6_looks_57 hl (by decide) rfl (fun ls hl => ?_)
        have K2 : ∀ (N9 : Nat) (w7 : Nat), (w7 ≤ fF n b) → fF n b - w7 < N9 → ∀ ls : Array Slot, lv_has ls 12 [(0, .ref m0), (1, .int (nI i)), (2, .int (nI k)), (3, .int (nI (fF n b))), (4, .int (nI (ctN (ltB k b) w7))), (5, .int (nI (lsW k b w7))), (6, .int (bI (decide (¬ ctN (ltB k b) w7 = w7)))), (7, .int (nI w7))] → W p l e (headSpec wsX6_looks ({ frames := 2, cells := 0, slots := 0, locals := 46 } : Room)).room s m ([.ref m0, .int (nI i), .int (nI k)] : List Value).toArray below meth c s.heap [] 0 0 (MQ below (k2_QcV (.int (tlI k n b))) ([.ref m0, .int (nI i), .int (nI k)] : List Value).toArray s 0 0 (fun _ => False)) (F0 m 59 ls []) := by
          intro N9
          induction N9 with
          | zero => intro w7 hp h9; exact absurd h9 (Nat.not_lt_zero _)
          | succ N9 ih_59 =>
            intro w7 hp h9 ls hl
            refine lv_iload hx hb dX6_looks_59 (lv_at hl 7 rfl) ?_
            refine lv_iload_n hx hb dX6_looks_61 rfl (lv_at hl 3 rfl) ?_
            refine ln_icmp_ge (tgt := 129) hx hb ⟨by omega, by omega⟩ dX6_looks_62 (by decide) (fun c_62 => ?_) (fun c_62 => ?_)
            · have e9 : w7 = fF n b := by omega
              subst e9
              refine lv_iconst (v := (nI 0)) hx hb dX6_looks_129 (by decide +kernel) ?_
              refine lv_istore (lv' := [(7, .int (nI 0)), (0, .ref m0), (1, .int (nI i)), (2, .int (nI k)), (3, .int (nI (fF n b))), (4, .int (nI (ctN (ltB k b) (fF n b)))), (5, .int (nI (lsW k b (fF n b)))), (6, .int (bI (decide (¬ ctN (ltB k b) (fF n b) = (fF n b)))))]) hx hb dX6_looks_130 hl (by decide) rfl (fun ls hl => ?_)
              refine lv_iconst (v := (nI 0)) hx hb dX6_looks_132 (by decide +kernel) ?_
              refine lv_istore (lv' := [(8, .int (nI 0)), (7, .int (nI 0)), (0, .ref m0), (1, .int (nI i)), (2, .int (nI k)), (3, .int (nI (fF n b))), (4, .int (nI (ctN (ltB k b) (fF n b)))), (5, .int (nI (lsW k b (fF n b)))), (6, .int (bI (decide (¬ ctN (ltB k b) (fF n b) = (fF n b)))))]) hx hb dX6_looks_133 hl (by decide) rfl (fun ls hl => ?_)
              refine lv_iconst (v := (nI 0)) hx hb dX6_looks_135 (by decide +kernel) ?_
              rw [show nI 0 = bI (utC k b (fF n b) (fF n b)).2 from by rw [utC_0]; rfl]
              refine lv_istore (lv' := [(9, .int (bI (utC k b (fF n b) (fF n b)).2)), (8, .int (nI 0)), (7, .int (nI 0)), (0, .ref m0), (1, .int (nI i)), (2, .int (nI k)), (3, .int (nI (fF n b))), (4, .int (nI (ctN (ltB k b) (fF n b)))), (5, .int (nI (lsW k b (fF n b)))), (6, .int (bI (decide (¬ ctN (ltB k b) (fF n b) = (fF n b)))))]) hx hb dX6_looks_136 hl (by decide) rfl (fun ls hl => ?_)
              refine lv_iload_n hx hb dX6_looks_138 rfl (lv_at hl 6 rfl) ?_
              refine lv_istore (lv' := [(10, .int (nI (fF n b))), (9, .int (bI (utC k b (fF n b) (fF n b)).2)), (8, .int (nI 0)), (7, .int (nI 0)), (0, .ref m0), (1, .int (nI i)), (2, .int (nI k)), (3, .int (nI (fF n b))), (4, .int (nI (ctN (ltB k b) (fF n b)))), (5, .int (nI (lsW k b (fF n b)))), (6, .int (bI (decide (¬ ctN (ltB k b) (fF n b) = (fF n b)))))]) hx hb dX6_looks_139 hl (by decide) rfl (fun ls hl => ?_)
              have K4 : ∀ (N9 : Nat) (w7 : Nat) (m9 : Nat) (ps : Nat), (fF n b ≤ w7 ∧ w7 ≤ n) → (m9 + ctN (eqB b) (fF n b) = ctN (eqB b) w7) → (ps ≤ w7) → ((utC k b (fF n b) w7).1 = decide (0 < ps)) → n - w7 < N9 → ∀ ls : Array Slot, lv_has ls 12 [(0, .ref m0), (1, .int (nI i)), (2, .int (nI k)), (3, .int (nI (fF n b))), (4, .int (nI (ctN (ltB k b) (fF n b)))), (5, .int (nI (lsW k b (fF n b)))), (6, .int (bI (decide (¬ ctN (ltB k b) (fF n b) = (fF n b))))), (7, .int (nI m9)), (8, .int (nI ps)), (9, .int (bI (utC k b (fF n b) w7).2)), (10, .int (nI w7))] → W p l e (headSpec wsX6_looks ({ frames := 2, cells := 0, slots := 0, locals := 46 } : Room)).room s m ([.ref m0, .int (nI i), .int (nI k)] : List Value).toArray below meth c s.heap [] 0 0 (MQ below (k2_QcV (.int (tlI k n b))) ([.ref m0, .int (nI i), .int (nI k)] : List Value).toArray s 0 0 (fun _ => False)) (F0 m 141 ls []) := by
                intro N9
                induction N9 with
                | zero => intro w7 m9 ps hp hm hps hpd h9; exact absurd h9 (Nat.not_lt_zero _)
                | succ N9 ih_141 =>
                  intro w7 m9 ps hp hm hps hpd h9 ls hl
                  refine lv_iload hx hb dX6_looks_141 (lv_at hl 10 rfl) ?_
                  refine lv_aload_n hx hb dX6_looks_143 rfl (lv_at hl 0 rfl) ?_
                  refine va_get (D := D) (ci := 3) (v := .ref ml) (C := RX6) (T := TX6) (N := 6) hx hb hts hi_X6 hown hK hP 0 rfl rfl 1 (by decide) (hts _ (List.mem_of_getElem? (i := 1) rfl)) (fun _ h9 => h9) rfl dX6_looks_144 ?_
                  refine lv_iload_n hx hb dX6_looks_147 rfl (lv_at hl 1 rfl) ?_
                  refine ln_iald hx hb hK hP 1 0 rfl rfl ⟨by omega, by omega⟩ dX6_looks_148 ?_
                  rw [show fl i = nI n from hln]
                  refine ln_icmp_ge (tgt := 223) hx hb ⟨by omega, by omega⟩ dX6_looks_149 (by decide) (fun c_149 => ?_) (fun c_149 => ?_)
                  · have e9 : w7 = n := by omega
                    have hm9 : m9 = mF n b := by rw [e9] at hm; unfold mF; omega
                    have hu9 : (utC k b (fF n b) w7).2 = (utB k b (fF n b) (n - fF n b - 1)).2 := by rw [e9, utC_e (fF_le n b)]
                    have J7 : ∀ (d : Nat), (d = duN (ctN (ltB k b) (fF n b))) → ∀ ls : Array Slot, lv_has ls 12 [(0, .ref m0), (1, .int (nI i)), (2, .int (nI k)), (3, .int (nI (fF n b))), (4, .int (nI (ctN (ltB k b) (fF n b)))), (5, .int (nI (lsW k b (fF n b)))), (6, .int (bI (decide (¬ ctN (ltB k b) (fF n b) = (fF n b))))), (7, .int (nI m9)), (9, .int (bI (utC k b (fF n b) w7).2))] → W p l e (headSpec wsX6_looks ({ frames := 2, cells := 0, slots := 0, locals := 46 } : Room)).room s m ([.ref m0, .int (nI i), .int (nI k)] : List Value).toArray below meth c s.heap [] 0 0 (MQ below (k2_QcV (.int (tlI k n b))) ([.ref m0, .int (nI i), .int (nI k)] : List Value).toArray s 0 0 (fun _ => False)) (F0 m 248 ls [.int (nI d)]) := by
                      intro d hd ls hl
                      refine lv_istore (lv' := [(10, .int (nI d)), (0, .ref m0), (1, .int (nI i)), (2, .int (nI k)), (3, .int (nI (fF n b))), (4, .int (nI (ctN (ltB k b) (fF n b)))), (5, .int (nI (lsW k b (fF n b)))), (6, .int (bI (decide (¬ ctN (ltB k b) (fF n b) = (fF n b))))), (7, .int (nI m9)), (9, .int (bI (utC k b (fF n b) w7).2))]) hx hb dX6_looks_248 hl (by decide) rfl (fun ls hl => ?_)
                      have J8 : (wroB k n b = false) → ∀ ls : Array Slot, lv_has ls 12 [(0, .ref m0), (1, .int (nI i)), (2, .int (nI k)), (3, .int (nI (fF n b))), (4, .int (nI (ctN (ltB k b) (fF n b)))), (5, .int (nI (lsW k b (fF n b)))), (6, .int (bI (decide (¬ ctN (ltB k b) (fF n b) = (fF n b))))), (7, .int (nI m9)), (9, .int (bI (utC k b (fF n b) w7).2)), (10, .int (nI d))] → W p l e (headSpec wsX6_looks ({ frames := 2, cells := 0, slots := 0, locals := 46 } : Room)).room s m ([.ref m0, .int (nI i), .int (nI k)] : List Value).toArray below meth c s.heap [] 0 0 (MQ below (k2_QcV (.int (tlI k n b))) ([.ref m0, .int (nI i), .int (nI k)] : List Value).toArray s 0 0 (fun _ => False)) (F0 m 301 ls []) := by
                        intro  hw9 ls hl
                        refine lv_iload hx hb dX6_looks_301 (lv_at hl 8 rfl) ?_
                        refine lv_if_ne (tgt := 340) hx hb dX6_looks_303 (by decide) (fun c_303 => ?_) (fun c_303 => ?_)
                        · have u9 := bI_nz.mp c_303
                          rw [hu9] at u9
                          refine lv_bipush (v := (-2)) hx hb dX6_looks_340 (by decide +kernel) ?_
                          have hk9 : ¬ (¬ k = 2 ∧ duN (ctN (ltB k b) (fF n b)) < mF n b) := fun z => absurd (wro_iff.mpr (Or.inr (Or.inr (Or.inr (Or.inr z))))) (by rw [hw9]; decide)
                          exact W.iret (v := (-2)) hx hb hr (fun t ht hW => ⟨(congrArg (fun z => Outcome.returned (some (Value.int z))) (show (-2) = (tlI k n b) from tl_u hw9 (unt_iff.mpr (by first | exact Or.inl u9 | exact Or.inr (by omega))))), ht⟩) (fun q h => nomatch h) dX6_looks_342
                        · have u9 := bI_z.mp c_303
                          rw [hu9] at u9
                          refine lv_iload hx hb dX6_looks_306 (lv_at hl 7 rfl) ?_
                          refine lv_iload hx hb dX6_looks_308 (lv_at hl 9 rfl) ?_
                          refine ln_icmp_gt (tgt := 340) hx hb ⟨by omega, by omega⟩ dX6_looks_310 (by decide) (fun c_310 => ?_) (fun c_310 => ?_)
                          · refine lv_bipush (v := (-2)) hx hb dX6_looks_340 (by decide +kernel) ?_
                            have hk9 : ¬ (¬ k = 2 ∧ duN (ctN (ltB k b) (fF n b)) < mF n b) := fun z => absurd (wro_iff.mpr (Or.inr (Or.inr (Or.inr (Or.inr z))))) (by rw [hw9]; decide)
                            exact W.iret (v := (-2)) hx hb hr (fun t ht hW => ⟨(congrArg (fun z => Outcome.returned (some (Value.int z))) (show (-2) = (tlI k n b) from tl_u hw9 (unt_iff.mpr (by first | exact Or.inl u9 | exact Or.inr (by omega))))), ht⟩) (fun q h => nomatch h) dX6_looks_342
                          · refine lv_iload hx hb dX6_looks_313 (lv_at hl 9 rfl) ?_
                            refine lv_iconst (v := (nI 2)) hx hb dX6_looks_315 (by decide +kernel) ?_
                            refine ln_icmp_ne (tgt := 327) hx hb ⟨by omega, by omega⟩ dX6_looks_316 (by decide) (fun c_316 => ?_) (fun c_316 => ?_)
                            · refine lv_iload hx hb dX6_looks_327 (lv_at hl 9 rfl) ?_
                              refine lv_iconst (v := (nI 1)) hx hb dX6_looks_329 (by decide +kernel) ?_
                              refine ln_icmp_ne (tgt := 343) hx hb ⟨by omega, by omega⟩ dX6_looks_330 (by decide) (fun c_330 => ?_) (fun c_330 => ?_)
                              · refine lv_bipush (v := (nI 6)) hx hb dX6_looks_343 (by decide +kernel) ?_
                                refine lv_iload hx hb dX6_looks_345 (lv_at hl 4 rfl) ?_
                                refine ln_mul hx hb dX6_looks_347 ?_
                                refine lv_bipush (v := (nI 8)) hx hb dX6_looks_348 (by decide +kernel) ?_
                                refine ln_div hx hb ⟨by omega, by omega, by omega⟩ dX6_looks_350 ?_
                                exact W.iret (v := (nI ((6 * (ctN (ltB k b) (fF n b))) / 8))) hx hb hr (fun t ht hW => ⟨(congrArg (fun z => Outcome.returned (some (Value.int z))) (show (nI ((6 * (ctN (ltB k b) (fF n b))) / 8)) = (tlI k n b) from by rw [← tl_r hw9 (no_of (fun z => by rcases unt_iff.mp z with q | q; exact absurd q (by rw [u9]; decide); omega))]; exact congrArg nI (by unfold lF; omega))), ht⟩) (fun q h => nomatch h) dX6_looks_351
                              · refine lv_iload hx hb dX6_looks_333 (lv_at hl 5 rfl) ?_
                                refine lv_iconst (v := (nI 4)) hx hb dX6_looks_335 (by decide +kernel) ?_
                                refine ln_rem hx hb ⟨by omega, by omega, by omega⟩ dX6_looks_336 ?_
                                refine ln_if_le (tgt := 343) hx hb (by omega) dX6_looks_337 (by decide) (fun c_337 => ?_) (fun c_337 => ?_)
                                · refine lv_bipush (v := (nI 6)) hx hb dX6_looks_343 (by decide +kernel) ?_
                                  refine lv_iload hx hb dX6_looks_345 (lv_at hl 4 rfl) ?_
                                  refine ln_mul hx hb dX6_looks_347 ?_
                                  refine lv_bipush (v := (nI 8)) hx hb dX6_looks_348 (by decide +kernel) ?_
                                  refine ln_div hx hb ⟨by omega, by omega, by omega⟩ dX6_looks_350 ?_
                                  exact W.iret (v := (nI ((6 * (ctN (ltB k b) (fF n b))) / 8))) hx hb hr (fun t ht hW => ⟨(congrArg (fun z => Outcome.returned (some (Value.int z))) (show (nI ((6 * (ctN (ltB k b) (fF n b))) / 8)) = (tlI k n b) from by rw [← tl_r hw9 (no_of (fun z => by rcases unt_iff.mp z with q | q; exact absurd q (by rw [u9]; decide); omega))]; exact congrArg nI (by unfold lF; omega))), ht⟩) (fun q h => nomatch h) dX6_looks_351
                                · refine lv_bipush (v := (-2)) hx hb dX6_looks_340 (by decide +kernel) ?_
                                  have hk9 : ¬ (¬ k = 2 ∧ duN (ctN (ltB k b) (fF n b)) < mF n b) := fun z => absurd (wro_iff.mpr (Or.inr (Or.inr (Or.inr (Or.inr z))))) (by rw [hw9]; decide)
                                  exact W.iret (v := (-2)) hx hb hr (fun t ht hW => ⟨(congrArg (fun z => Outcome.returned (some (Value.int z))) (show (-2) = (tlI k n b) from tl_u hw9 (unt_iff.mpr (by first | exact Or.inl u9 | exact Or.inr (by omega))))), ht⟩) (fun q h => nomatch h) dX6_looks_342
                            · refine lv_iload hx hb dX6_looks_319 (lv_at hl 5 rfl) ?_
                              refine lv_bipush (v := (nI 16)) hx hb dX6_looks_321 (by decide +kernel) ?_
                              refine ln_rem hx hb ⟨by omega, by omega, by omega⟩ dX6_looks_323 ?_
                              refine ln_if_gt (tgt := 340) hx hb (by omega) dX6_looks_324 (by decide) (fun c_324 => ?_) (fun c_324 => ?_)
                              · refine lv_bipush (v := (-2)) hx hb dX6_looks_340 (by decide +kernel) ?_
                                have hk9 : ¬ (¬ k = 2 ∧ duN (ctN (ltB k b) (fF n b)) < mF n b) := fun z => absurd (wro_iff.mpr (Or.inr (Or.inr (Or.inr (Or.inr z))))) (by rw [hw9]; decide)
                                exact W.iret (v := (-2)) hx hb hr (fun t ht hW => ⟨(congrArg (fun z => Outcome.returned (some (Value.int z))) (show (-2) = (tlI k n b) from tl_u hw9 (unt_iff.mpr (by first | exact Or.inl u9 | exact Or.inr (by omega))))), ht⟩) (fun q h => nomatch h) dX6_looks_342
                              · refine lv_iload hx hb dX6_looks_327 (lv_at hl 9 rfl) ?_
                                refine lv_iconst (v := (nI 1)) hx hb dX6_looks_329 (by decide +kernel) ?_
                                refine ln_icmp_ne (tgt := 343) hx hb ⟨by omega, by omega⟩ dX6_looks_330 (by decide) (fun c_330 => ?_) (fun c_330 => ?_)
                                · refine lv_bipush (v := (nI 6)) hx hb dX6_looks_343 (by decide +kernel) ?_
                                  refine lv_iload hx hb dX6_looks_345 (lv_at hl 4 rfl) ?_
                                  refine ln_mul hx hb dX6_looks_347 ?_
                                  refine lv_bipush (v := (nI 8)) hx hb dX6_looks_348 (by decide +kernel) ?_
                                  refine ln_div hx hb ⟨by omega, by omega, by omega⟩ dX6_looks_350 ?_
                                  exact W.iret (v := (nI ((6 * (ctN (ltB k b) (fF n b))) / 8))) hx hb hr (fun t ht hW => ⟨(congrArg (fun z => Outcome.returned (some (Value.int z))) (show (nI ((6 * (ctN (ltB k b) (fF n b))) / 8)) = (tlI k n b) from by rw [← tl_r hw9 (no_of (fun z => by rcases unt_iff.mp z with q | q; exact absurd q (by rw [u9]; decide); omega))]; exact congrArg nI (by unfold lF; omega))), ht⟩) (fun q h => nomatch h) dX6_looks_351
                                · refine lv_iload hx hb dX6_looks_333 (lv_at hl 5 rfl) ?_
                                  refine lv_iconst (v := (nI 4)) hx hb dX6_looks_335 (by decide +kernel) ?_
                                  refine ln_rem hx hb ⟨by omega, by omega, by omega⟩ dX6_looks_336 ?_
                                  refine ln_if_le (tgt := 343) hx hb (by omega) dX6_looks_337 (by decide) (fun c_337 => ?_) (fun c_337 => ?_)
                                  · refine lv_bipush (v := (nI 6)) hx hb dX6_looks_343 (by decide +kernel) ?_
                                    refine lv_iload hx hb dX6_looks_345 (lv_at hl 4 rfl) ?_
                                    refine ln_mul hx hb dX6_looks_347 ?_
                                    refine lv_bipush (v := (nI 8)) hx hb dX6_looks_348 (by decide +kernel) ?_
                                    refine ln_div hx hb ⟨by omega, by omega, by omega⟩ dX6_looks_350 ?_
                                    exact W.iret (v := (nI ((6 * (ctN (ltB k b) (fF n b))) / 8))) hx hb hr (fun t ht hW => ⟨(congrArg (fun z => Outcome.returned (some (Value.int z))) (show (nI ((6 * (ctN (ltB k b) (fF n b))) / 8)) = (tlI k n b) from by rw [← tl_r hw9 (no_of (fun z => by rcases unt_iff.mp z with q | q; exact absurd q (by rw [u9]; decide); omega))]; exact congrArg nI (by unfold lF; omega))), ht⟩) (fun q h => nomatch h) dX6_looks_351
                                  · refine lv_bipush (v := (-2)) hx hb dX6_looks_340 (by decide +kernel) ?_
                                    have hk9 : ¬ (¬ k = 2 ∧ duN (ctN (ltB k b) (fF n b)) < mF n b) := fun z => absurd (wro_iff.mpr (Or.inr (Or.inr (Or.inr (Or.inr z))))) (by rw [hw9]; decide)
                                    exact W.iret (v := (-2)) hx hb hr (fun t ht hW => ⟨(congrArg (fun z => Outcome.returned (some (Value.int z))) (show (-2) = (tlI k n b) from tl_u hw9 (unt_iff.mpr (by first | exact Or.inl u9 | exact Or.inr (by omega))))), ht⟩) (fun q h => nomatch h) dX6_looks_342
                      refine lv_iload_n hx hb dX6_looks_250 rfl (lv_at hl 3 rfl) ?_
                      refine lv_iconst (v := (nI 2)) hx hb dX6_looks_251 (by decide +kernel) ?_
                      refine ln_icmp_ge (tgt := 267) hx hb ⟨by omega, by omega⟩ dX6_looks_252 (by decide) (fun c_252 => ?_) (fun c_252 => ?_)
                      · refine lv_iload hx hb dX6_looks_267 (lv_at hl 5 rfl) ?_
                        refine lv_iconst (v := (nI 4)) hx hb dX6_looks_269 (by decide +kernel) ?_
                        refine ln_rem hx hb ⟨by omega, by omega, by omega⟩ dX6_looks_270 ?_
                        refine lv_iconst (v := (nI 1)) hx hb dX6_looks_271 (by decide +kernel) ?_
                        refine ln_icmp_eq (tgt := 299) hx hb ⟨by omega, by omega⟩ dX6_looks_272 (by decide) (fun c_272 => ?_) (fun c_272 => ?_)
                        · refine lv_iconst (v := (-1)) hx hb dX6_looks_299 (by decide +kernel) ?_
                          exact W.iret (v := (-1)) hx hb hr (fun t ht hW => ⟨(congrArg (fun z => Outcome.returned (some (Value.int z))) (show (-1) = (tlI k n b) from tl_w (wro_iff.mpr (by omega)))), ht⟩) (fun q h => nomatch h) dX6_looks_300
                        · refine lv_iload hx hb dX6_looks_275 (lv_at hl 8 rfl) ?_
                          refine ln_if_le (tgt := 287) hx hb (by omega) dX6_looks_277 (by decide) (fun c_277 => ?_) (fun c_277 => ?_)
                          · refine lv_iload hx hb dX6_looks_287 (lv_at hl 8 rfl) ?_
                            refine lv_iconst (v := (nI 1)) hx hb dX6_looks_289 (by decide +kernel) ?_
                            refine ln_icmp_ne (tgt := 301) hx hb ⟨by omega, by omega⟩ dX6_looks_290 (by decide) (fun c_290 => ?_) (fun c_290 => ?_)
                            · exact J8  (no_of (fun z => by have z9 := wro_iff.mp z; omega)) ls (lv_sub hl [1, 2, 3, 4, 5, 6, 7, 8, 9, 0] rfl)
                            · refine lv_iload hx hb dX6_looks_293 (lv_at hl 0 rfl) ?_
                              refine lv_iconst (v := (nI 2)) hx hb dX6_looks_295 (by decide +kernel) ?_
                              refine ln_icmp_ne (tgt := 301) hx hb ⟨by omega, by omega⟩ dX6_looks_296 (by decide) (fun c_296 => ?_) (fun c_296 => ?_)
                              · exact J8  (no_of (fun z => by have z9 := wro_iff.mp z; omega)) ls (lv_sub hl [1, 2, 3, 4, 5, 6, 7, 8, 9, 0] rfl)
                              · refine lv_iconst (v := (-1)) hx hb dX6_looks_299 (by decide +kernel) ?_
                                exact W.iret (v := (-1)) hx hb hr (fun t ht hW => ⟨(congrArg (fun z => Outcome.returned (some (Value.int z))) (show (-1) = (tlI k n b) from tl_w (wro_iff.mpr (by omega)))), ht⟩) (fun q h => nomatch h) dX6_looks_300
                          · refine lv_iload hx hb dX6_looks_280 (lv_at hl 5 rfl) ?_
                            refine lv_iconst (v := (nI 4)) hx hb dX6_looks_282 (by decide +kernel) ?_
                            refine ln_rem hx hb ⟨by omega, by omega, by omega⟩ dX6_looks_283 ?_
                            refine ln_if_eq (tgt := 299) hx hb (by omega) dX6_looks_284 (by decide) (fun c_284 => ?_) (fun c_284 => ?_)
                            · refine lv_iconst (v := (-1)) hx hb dX6_looks_299 (by decide +kernel) ?_
                              exact W.iret (v := (-1)) hx hb hr (fun t ht hW => ⟨(congrArg (fun z => Outcome.returned (some (Value.int z))) (show (-1) = (tlI k n b) from tl_w (wro_iff.mpr (by omega)))), ht⟩) (fun q h => nomatch h) dX6_looks_300
                            · refine lv_iload hx hb dX6_looks_287 (lv_at hl 8 rfl) ?_
                              refine lv_iconst (v := (nI 1)) hx hb dX6_looks_289 (by decide +kernel) ?_
                              refine ln_icmp_ne (tgt := 301) hx hb ⟨by omega, by omega⟩ dX6_looks_290 (by decide) (fun c_290 => ?_) (fun c_290 => ?_)
                              · exact J8  (no_of (fun z => by have z9 := wro_iff.mp z; omega)) ls (lv_sub hl [1, 2, 3, 4, 5, 6, 7, 8, 9, 0] rfl)
                              · refine lv_iload hx hb dX6_looks_293 (lv_at hl 0 rfl) ?_
                                refine lv_iconst (v := (nI 2)) hx hb dX6_looks_295 (by decide +kernel) ?_
                                refine ln_icmp_ne (tgt := 301) hx hb ⟨by omega, by omega⟩ dX6_looks_296 (by decide) (fun c_296 => ?_) (fun c_296 => ?_)
                                · exact J8  (no_of (fun z => by have z9 := wro_iff.mp z; omega)) ls (lv_sub hl [1, 2, 3, 4, 5, 6, 7, 8, 9, 0] rfl)
                                · refine lv_iconst (v := (-1)) hx hb dX6_looks_299 (by decide +kernel) ?_
                                  exact W.iret (v := (-1)) hx hb hr (fun t ht hW => ⟨(congrArg (fun z => Outcome.returned (some (Value.int z))) (show (-1) = (tlI k n b) from tl_w (wro_iff.mpr (by omega)))), ht⟩) (fun q h => nomatch h) dX6_looks_300
                      · refine lv_iload hx hb dX6_looks_255 (lv_at hl 7 rfl) ?_
                        refine lv_if_ne (tgt := 299) hx hb dX6_looks_257 (by decide) (fun c_257 => ?_) (fun c_257 => ?_)
                        · have w6 := of_decide_eq_true (bI_nz.mp c_257)
                          refine lv_iconst (v := (-1)) hx hb dX6_looks_299 (by decide +kernel) ?_
                          exact W.iret (v := (-1)) hx hb hr (fun t ht hW => ⟨(congrArg (fun z => Outcome.returned (some (Value.int z))) (show (-1) = (tlI k n b) from tl_w (wro_iff.mpr (by omega)))), ht⟩) (fun q h => nomatch h) dX6_looks_300
                        · have w6 := of_decide_eq_false (bI_z.mp c_257)
                          refine lv_iload hx hb dX6_looks_260 (lv_at hl 8 rfl) ?_
                          refine lv_iload hx hb dX6_looks_262 (lv_at hl 0 rfl) ?_
                          refine ln_icmp_gt (tgt := 299) hx hb ⟨by omega, by omega⟩ dX6_looks_264 (by decide) (fun c_264 => ?_) (fun c_264 => ?_)
                          · refine lv_iconst (v := (-1)) hx hb dX6_looks_299 (by decide +kernel) ?_
                            exact W.iret (v := (-1)) hx hb hr (fun t ht hW => ⟨(congrArg (fun z => Outcome.returned (some (Value.int z))) (show (-1) = (tlI k n b) from tl_w (wro_iff.mpr (by omega)))), ht⟩) (fun q h => nomatch h) dX6_looks_300
                          · refine lv_iload hx hb dX6_looks_267 (lv_at hl 5 rfl) ?_
                            refine lv_iconst (v := (nI 4)) hx hb dX6_looks_269 (by decide +kernel) ?_
                            refine ln_rem hx hb ⟨by omega, by omega, by omega⟩ dX6_looks_270 ?_
                            refine lv_iconst (v := (nI 1)) hx hb dX6_looks_271 (by decide +kernel) ?_
                            refine ln_icmp_eq (tgt := 299) hx hb ⟨by omega, by omega⟩ dX6_looks_272 (by decide) (fun c_272 => ?_) (fun c_272 => ?_)
                            · refine lv_iconst (v := (-1)) hx hb dX6_looks_299 (by decide +kernel) ?_
                              exact W.iret (v := (-1)) hx hb hr (fun t ht hW => ⟨(congrArg (fun z => Outcome.returned (some (Value.int z))) (show (-1) = (tlI k n b) from tl_w (wro_iff.mpr (by omega)))), ht⟩) (fun q h => nomatch h) dX6_looks_300
                            · refine lv_iload hx hb dX6_looks_275 (lv_at hl 8 rfl) ?_
                              refine ln_if_le (tgt := 287) hx hb (by omega) dX6_looks_277 (by decide) (fun c_277 => ?_) (fun c_277 => ?_)
                              · refine lv_iload hx hb dX6_looks_287 (lv_at hl 8 rfl) ?_
                                refine lv_iconst (v := (nI 1)) hx hb dX6_looks_289 (by decide +kernel) ?_
                                refine ln_icmp_ne (tgt := 301) hx hb ⟨by omega, by omega⟩ dX6_looks_290 (by decide) (fun c_290 => ?_) (fun c_290 => ?_)
                                · exact J8  (no_of (fun z => by have z9 := wro_iff.mp z; omega)) ls (lv_sub hl [1, 2, 3, 4, 5, 6, 7, 8, 9, 0] rfl)
                                · refine lv_iload hx hb dX6_looks_293 (lv_at hl 0 rfl) ?_
                                  refine lv_iconst (v := (nI 2)) hx hb dX6_looks_295 (by decide +kernel) ?_
                                  refine ln_icmp_ne (tgt := 301) hx hb ⟨by omega, by omega⟩ dX6_looks_296 (by decide) (fun c_296 => ?_) (fun c_296 => ?_)
                                  · exact J8  (no_of (fun z => by have z9 := wro_iff.mp z; omega)) ls (lv_sub hl [1, 2, 3, 4, 5, 6, 7, 8, 9, 0] rfl)
                                  · refine lv_iconst (v := (-1)) hx hb dX6_looks_299 (by decide +kernel) ?_
                                    exact W.iret (v := (-1)) hx hb hr (fun t ht hW => ⟨(congrArg (fun z => Outcome.returned (some (Value.int z))) (show (-1) = (tlI k n b) from tl_w (wro_iff.mpr (by omega)))), ht⟩) (fun q h => nomatch h) dX6_looks_300
                              · refine lv_iload hx hb dX6_looks_280 (lv_at hl 5 rfl) ?_
                                refine lv_iconst (v := (nI 4)) hx hb dX6_looks_282 (by decide +kernel) ?_
                                refine ln_rem hx hb ⟨by omega, by omega, by omega⟩ dX6_looks_283 ?_
                                refine ln_if_eq (tgt := 299) hx hb (by omega) dX6_looks_284 (by decide) (fun c_284 => ?_) (fun c_284 => ?_)
                                · refine lv_iconst (v := (-1)) hx hb dX6_looks_299 (by decide +kernel) ?_
                                  exact W.iret (v := (-1)) hx hb hr (fun t ht hW => ⟨(congrArg (fun z => Outcome.returned (some (Value.int z))) (show (-1) = (tlI k n b) from tl_w (wro_iff.mpr (by omega)))), ht⟩) (fun q h => nomatch h) dX6_looks_300
                                · refine lv_iload hx hb dX6_looks_287 (lv_at hl 8 rfl) ?_
                                  refine lv_iconst (v := (nI 1)) hx hb dX6_looks_289 (by decide +kernel) ?_
                                  refine ln_icmp_ne (tgt := 301) hx hb ⟨by omega, by omega⟩ dX6_looks_290 (by decide) (fun c_290 => ?_) (fun c_290 => ?_)
                                  · exact J8  (no_of (fun z => by have z9 := wro_iff.mp z; omega)) ls (lv_sub hl [1, 2, 3, 4, 5, 6, 7, 8, 9, 0] rfl)
                                  · refine lv_iload hx hb dX6_looks_293 (lv_at hl 0 rfl) ?_
                                    refine lv_iconst (v := (nI 2)) hx hb dX6_looks_295 (by decide +kernel) ?_
                                    refine ln_icmp_ne (tgt := 301) hx hb ⟨by omega, by omega⟩ dX6_looks_296 (by decide) (fun c_296 => ?_) (fun c_296 => ?_)
                                    · exact J8  (no_of (fun z => by have z9 := wro_iff.mp z; omega)) ls (lv_sub hl [1, 2, 3, 4, 5, 6, 7, 8, 9, 0] rfl)
                                    · refine lv_iconst (v := (-1)) hx hb dX6_looks_299 (by decide +kernel) ?_
                                      exact W.iret (v := (-1)) hx hb hr (fun t ht hW => ⟨(congrArg (fun z => Outcome.returned (some (Value.int z))) (show (-1) = (tlI k n b) from tl_w (wro_iff.mpr (by omega)))), ht⟩) (fun q h => nomatch h) dX6_looks_300
                    refine lv_iload hx hb dX6_looks_223 (lv_at hl 4 rfl) ?_
                    refine lv_iconst (v := (nI 4)) hx hb dX6_looks_225 (by decide +kernel) ?_
                    refine ln_rem hx hb ⟨by omega, by omega, by omega⟩ dX6_looks_226 ?_
                    refine lv_iconst (v := (nI 2)) hx hb dX6_looks_227 (by decide +kernel) ?_
                    refine ln_icmp_ne (tgt := 235) hx hb ⟨by omega, by omega⟩ dX6_looks_228 (by decide) (fun c_228 => ?_) (fun c_228 => ?_)
                    · refine lv_iload hx hb dX6_looks_235 (lv_at hl 4 rfl) ?_
                      refine lv_iconst (v := (nI 4)) hx hb dX6_looks_237 (by decide +kernel) ?_
                      refine ln_rem hx hb ⟨by omega, by omega, by omega⟩ dX6_looks_238 ?_
                      refine lv_iconst (v := (nI 3)) hx hb dX6_looks_239 (by decide +kernel) ?_
                      refine ln_icmp_ne (tgt := 247) hx hb ⟨by omega, by omega⟩ dX6_looks_240 (by decide) (fun c_240 => ?_) (fun c_240 => ?_)
                      · refine lv_iconst (v := (nI 0)) hx hb dX6_looks_247 (by decide +kernel) ?_
                        exact J7 0 (by unfold duN; (repeat' split) <;> omega) ls (lv_sub hl [0, 1, 2, 3, 4, 5, 6, 7, 9] rfl)
                      · refine lv_iconst (v := (nI 1)) hx hb dX6_looks_243 (by decide +kernel) ?_
                        refine lv_goto (tgt := 248) hx hb dX6_looks_244 (by decide) ?_
                        exact J7 1 (by unfold duN; (repeat' split) <;> omega) ls (lv_sub hl [0, 1, 2, 3, 4, 5, 6, 7, 9] rfl)
                    · refine lv_iconst (v := (nI 2)) hx hb dX6_looks_231 (by decide +kernel) ?_
                      refine lv_goto (tgt := 248) hx hb dX6_looks_232 (by decide) ?_
                      exact J7 2 (by unfold duN; (repeat' split) <;> omega) ls (lv_sub hl [0, 1, 2, 3, 4, 5, 6, 7, 9] rfl)
                  · refine lv_aload_n hx hb dX6_looks_152 rfl (lv_at hl 0 rfl) ?_
                    refine lv_iload_n hx hb dX6_looks_153 rfl (lv_at hl 1 rfl) ?_
                    refine lv_iload hx hb dX6_looks_154 (lv_at hl 10 rfl) ?_
                    refine ro_V (As := [.int (nI i), .int (nI w7)]) (rest := []) (wc := [(m0, .inr (3, [.ref mb, .ref ml, .ref mm, .int (nI many), .int th, .ref mk])), (mb, .inl (T 0, 1920, .inl fb))]) (r := .int (nI (b w7))) ⟨hx, hb, hml, hown, hts⟩ (c_X6_atB l D T g m0 mb ml mm mk many th fb i w7 n b hi hrw (by omega)) (cwV 2 hts gX6_looks_X6_at rfl rfl rfl (by decide +kernel) ⟨Nat.le_of_ble_eq_true rfl, Nat.le_of_ble_eq_true rfl⟩) (va_recv hK hP (ci := 3) (q0 := 0) rfl rfl) hP hK hG hS [0, 2] rfl ⟨Nat.zero_le _, Nat.zero_le _⟩ rfl hl.1 (Nat.le_of_ble_eq_true rfl) dX6_looks_156 rfl ?_
                    refine lv_istore (lv' := [(11, .int (nI (b w7))), (0, .ref m0), (1, .int (nI i)), (2, .int (nI k)), (3, .int (nI (fF n b))), (4, .int (nI (ctN (ltB k b) (fF n b)))), (5, .int (nI (lsW k b (fF n b)))), (6, .int (bI (decide (¬ ctN (ltB k b) (fF n b) = (fF n b))))), (7, .int (nI m9)), (8, .int (nI ps)), (9, .int (bI (utC k b (fF n b) w7).2)), (10, .int (nI w7))]) hx hb dX6_looks_159 hl (by decide) rfl (fun ls hl => ?_)
                    refine lv_iload hx hb dX6_looks_161 (lv_at hl 0 rfl) ?_
                    refine lv_bipush (v := (nI 61)) hx hb dX6_looks_163 (by decide +kernel) ?_
                    have hx1 := hb0 w7 (by omega)
                    refine ln_icmp_ne (tgt := 189) hx hb ⟨by omega, by omega⟩ dX6_looks_165 (by decide) (fun c_165 => ?_) (fun c_165 => ?_)
                    · have hfp : fF n b < w7 := by rcases Nat.lt_or_ge (fF n b) w7 with r | r; exact r; exact absurd (by rw [show w7 = fF n b from by omega]; exact of_decide_eq_true (fsN_yes (eqB b) n (by show fF n b < n; omega))) c_165
                      refine lv_iinc (v := (nI (ps + 1))) (lv' := [(8, .int (nI (ps + 1))), (11, .int (nI (b w7))), (0, .ref m0), (1, .int (nI i)), (2, .int (nI k)), (3, .int (nI (fF n b))), (4, .int (nI (ctN (ltB k b) (fF n b)))), (5, .int (nI (lsW k b (fF n b)))), (6, .int (bI (decide (¬ ctN (ltB k b) (fF n b) = (fF n b))))), (7, .int (nI m9)), (9, .int (bI (utC k b (fF n b) w7).2)), (10, .int (nI w7))]) hx hb dX6_looks_189 hl (k := 9) rfl (ni_inc1 _) (by decide) rfl (fun ls hl => ?_)
                      refine lv_iload hx hb dX6_looks_192 (lv_at hl 10 rfl) ?_
                      refine lv_iload_n hx hb dX6_looks_194 rfl (lv_at hl 4 rfl) ?_
                      refine lv_iconst (v := (nI 2)) hx hb dX6_looks_195 (by decide +kernel) ?_
                      refine ln_icmp_lt (tgt := 209) hx hb ⟨by omega, by omega⟩ dX6_looks_196 (by decide) (fun c_196 => ?_) (fun c_196 => ?_)
                      · refine lv_iconst (v := (nI 1)) hx hb dX6_looks_209 (by decide +kernel) ?_
                        refine lv_goto (tgt := 214) hx hb dX6_looks_210 (by decide) ?_
                        refine lv_ior hx hb dX6_looks_214 ?_
                        rw [show (bI (utC k b (fF n b) w7).2) ||| (nI 1) = (bI (utC k b (fF n b) (w7 + 1)).2) from by rw [utC_n (by omega) c_165, show nI 1 = bI true from rfl, bI_or]; first | (rw [decide_eq_true (show ¬ k = 2 from by omega)]; simp; done) | (rw [show isL k (b w7) = true from decide_eq_true (Decidable.not_not.mp (fun q => c_206 (wV_neg.mpr q)))]; simp; done)]
                        refine lv_istore (lv' := [(9, .int (bI (utC k b (fF n b) (w7 + 1)).2)), (8, .int (nI (ps + 1))), (11, .int (nI (b w7))), (0, .ref m0), (1, .int (nI i)), (2, .int (nI k)), (3, .int (nI (fF n b))), (4, .int (nI (ctN (ltB k b) (fF n b)))), (5, .int (nI (lsW k b (fF n b)))), (6, .int (bI (decide (¬ ctN (ltB k b) (fF n b) = (fF n b))))), (7, .int (nI m9)), (10, .int (nI w7))]) hx hb dX6_looks_215 hl (by decide) rfl (fun ls hl => ?_)
                        refine lv_iinc (v := (nI (w7 + 1))) (lv' := [(10, .int (nI (w7 + 1))), (9, .int (bI (utC k b (fF n b) (w7 + 1)).2)), (8, .int (nI (ps + 1))), (11, .int (nI (b w7))), (0, .ref m0), (1, .int (nI i)), (2, .int (nI k)), (3, .int (nI (fF n b))), (4, .int (nI (ctN (ltB k b) (fF n b)))), (5, .int (nI (lsW k b (fF n b)))), (6, .int (bI (decide (¬ ctN (ltB k b) (fF n b) = (fF n b))))), (7, .int (nI m9))]) hx hb dX6_looks_217 hl (k := 11) rfl (ni_inc1 _) (by decide) rfl (fun ls hl => ?_)
                        refine lv_goto (tgt := 141) hx hb dX6_looks_220 (by decide) ?_
                        exact ih_141 (w7 + 1) m9 (ps + 1) (by omega) (by first | (rw [ctN_t (show eqB b w7 = true from decide_eq_true c_165)]; omega) | (rw [ctN_f (show eqB b w7 = false from decide_eq_false c_165)]; omega)) (by omega) (by first | (rw [utC_y hp.1 c_165]; exact hpd) | (rw [utC_n (by omega) c_165]; exact (decide_eq_true (by omega)).symm)) (by omega) ls (lv_sub hl [4, 5, 6, 7, 8, 9, 10, 11, 2, 1, 0] rfl)
                      · refine lv_aload_n hx hb dX6_looks_199 rfl (lv_at hl 2 rfl) ?_
                        refine lv_iload hx hb dX6_looks_200 (lv_at hl 1 rfl) ?_
                        refine lv_iload_n hx hb dX6_looks_202 rfl (lv_at hl 4 rfl) ?_
                        refine ro_V (As := [.int (nI (b w7)), .int (nI k)]) (rest := [.int (bI (utC k b (fF n b) w7).2)]) (wc := [(m0, .inr (3, [.ref mb, .ref ml, .ref mm, .int (nI many), .int th, .ref mk]))]) (r := .int (wV k (b w7))) ⟨hx, hb, hml, hown, hts⟩ (c_X6_worth l D T g m0 mb ml mm mk many th (b w7) (hb0 w7 (by omega)) k hk) (cwV 2 hts gX6_looks_X6_worth rfl rfl rfl (by decide +kernel) ⟨Nat.le_of_ble_eq_true rfl, Nat.le_of_ble_eq_true rfl⟩) (va_recv hK hP (ci := 3) (q0 := 0) rfl rfl) hP hK hG hS [0] rfl ⟨Nat.zero_le _, Nat.zero_le _⟩ rfl hl.1 (Nat.le_of_ble_eq_true rfl) dX6_looks_203 rfl ?_
                        refine lv_if_lt (tgt := 213) hx hb dX6_looks_206 (by decide) (fun c_206 => ?_) (fun c_206 => ?_)
                        · refine lv_iconst (v := (nI 0)) hx hb dX6_looks_213 (by decide +kernel) ?_
                          refine lv_ior hx hb dX6_looks_214 ?_
                          rw [show (bI (utC k b (fF n b) w7).2) ||| (nI 0) = (bI (utC k b (fF n b) (w7 + 1)).2) from by rw [utC_n (by omega) c_165, show nI 0 = bI false from rfl, bI_or, decide_eq_false (show ¬ ¬ k = 2 from by omega), show isL k (b w7) = false from decide_eq_false (wV_neg.mp c_206)]; simp]
                          refine lv_istore (lv' := [(9, .int (bI (utC k b (fF n b) (w7 + 1)).2)), (8, .int (nI (ps + 1))), (11, .int (nI (b w7))), (0, .ref m0), (1, .int (nI i)), (2, .int (nI k)), (3, .int (nI (fF n b))), (4, .int (nI (ctN (ltB k b) (fF n b)))), (5, .int (nI (lsW k b (fF n b)))), (6, .int (bI (decide (¬ ctN (ltB k b) (fF n b) = (fF n b))))), (7, .int (nI m9)), (10, .int (nI w7))]) hx hb dX6_looks_215 hl (by decide) rfl (fun ls hl => ?_)
                          refine lv_iinc (v := (nI (w7 + 1))) (lv' := [(10, .int (nI (w7 + 1))), (9, .int (bI (utC k b (fF n b) (w7 + 1)).2)), (8, .int (nI (ps + 1))), (11, .int (nI (b w7))), (0, .ref m0), (1, .int (nI i)), (2, .int (nI k)), (3, .int (nI (fF n b))), (4, .int (nI (ctN (ltB k b) (fF n b)))), (5, .int (nI (lsW k b (fF n b)))), (6, .int (bI (decide (¬ ctN (ltB k b) (fF n b) = (fF n b))))), (7, .int (nI m9))]) hx hb dX6_looks_217 hl (k := 11) rfl (ni_inc1 _) (by decide) rfl (fun ls hl => ?_)
                          refine lv_goto (tgt := 141) hx hb dX6_looks_220 (by decide) ?_
                          exact ih_141 (w7 + 1) m9 (ps + 1) (by omega) (by first | (rw [ctN_t (show eqB b w7 = true from decide_eq_true c_165)]; omega) | (rw [ctN_f (show eqB b w7 = false from decide_eq_false c_165)]; omega)) (by omega) (by first | (rw [utC_y hp.1 c_165]; exact hpd) | (rw [utC_n (by omega) c_165]; exact (decide_eq_true (by omega)).symm)) (by omega) ls (lv_sub hl [4, 5, 6, 7, 8, 9, 10, 11, 2, 1, 0] rfl)
                        · refine lv_iconst (v := (nI 1)) hx hb dX6_looks_209 (by decide +kernel) ?_
                          refine lv_goto (tgt := 214) hx hb dX6_looks_210 (by decide) ?_
                          refine lv_ior hx hb dX6_looks_214 ?_
                          rw [show (bI (utC k b (fF n b) w7).2) ||| (nI 1) = (bI (utC k b (fF n b) (w7 + 1)).2) from by rw [utC_n (by omega) c_165, show nI 1 = bI true from rfl, bI_or]; first | (rw [decide_eq_true (show ¬ k = 2 from by omega)]; simp; done) | (rw [show isL k (b w7) = true from decide_eq_true (Decidable.not_not.mp (fun q => c_206 (wV_neg.mpr q)))]; simp; done)]
                          refine lv_istore (lv' := [(9, .int (bI (utC k b (fF n b) (w7 + 1)).2)), (8, .int (nI (ps + 1))), (11, .int (nI (b w7))), (0, .ref m0), (1, .int (nI i)), (2, .int (nI k)), (3, .int (nI (fF n b))), (4, .int (nI (ctN (ltB k b) (fF n b)))), (5, .int (nI (lsW k b (fF n b)))), (6, .int (bI (decide (¬ ctN (ltB k b) (fF n b) = (fF n b))))), (7, .int (nI m9)), (10, .int (nI w7))]) hx hb dX6_looks_215 hl (by decide) rfl (fun ls hl => ?_)
                          refine lv_iinc (v := (nI (w7 + 1))) (lv' := [(10, .int (nI (w7 + 1))), (9, .int (bI (utC k b (fF n b) (w7 + 1)).2)), (8, .int (nI (ps + 1))), (11, .int (nI (b w7))), (0, .ref m0), (1, .int (nI i)), (2, .int (nI k)), (3, .int (nI (fF n b))), (4, .int (nI (ctN (ltB k b) (fF n b)))), (5, .int (nI (lsW k b (fF n b)))), (6, .int (bI (decide (¬ ctN (ltB k b) (fF n b) = (fF n b))))), (7, .int (nI m9))]) hx hb dX6_looks_217 hl (k := 11) rfl (ni_inc1 _) (by decide) rfl (fun ls hl => ?_)
                          refine lv_goto (tgt := 141) hx hb dX6_looks_220 (by decide) ?_
                          exact ih_141 (w7 + 1) m9 (ps + 1) (by omega) (by first | (rw [ctN_t (show eqB b w7 = true from decide_eq_true c_165)]; omega) | (rw [ctN_f (show eqB b w7 = false from decide_eq_false c_165)]; omega)) (by omega) (by first | (rw [utC_y hp.1 c_165]; exact hpd) | (rw [utC_n (by omega) c_165]; exact (decide_eq_true (by omega)).symm)) (by omega) ls (lv_sub hl [4, 5, 6, 7, 8, 9, 10, 11, 2, 1, 0] rfl)
                    · refine lv_iinc (v := (nI (m9 + 1))) (lv' := [(7, .int (nI (m9 + 1))), (11, .int (nI (b w7))), (0, .ref m0), (1, .int (nI i)), (2, .int (nI k)), (3, .int (nI (fF n b))), (4, .int (nI (ctN (ltB k b) (fF n b)))), (5, .int (nI (lsW k b (fF n b)))), (6, .int (bI (decide (¬ ctN (ltB k b) (fF n b) = (fF n b))))), (8, .int (nI ps)), (9, .int (bI (utC k b (fF n b) w7).2)), (10, .int (nI w7))]) hx hb dX6_looks_168 hl (k := 8) rfl (ni_inc1 _) (by decide) rfl (fun ls hl => ?_)
                      refine lv_iload hx hb dX6_looks_171 (lv_at hl 10 rfl) ?_
                      refine lv_iload hx hb dX6_looks_173 (lv_at hl 9 rfl) ?_
                      refine ln_if_le (tgt := 182) hx hb (by omega) dX6_looks_175 (by decide) (fun c_175 => ?_) (fun c_175 => ?_)
                      · refine lv_iconst (v := (nI 0)) hx hb dX6_looks_182 (by decide +kernel) ?_
                        refine lv_ior hx hb dX6_looks_183 ?_
                        rw [show (bI (utC k b (fF n b) w7).2) ||| (nI 0) = (bI (utC k b (fF n b) (w7 + 1)).2) from by rw [utC_y hp.1 c_165, hpd]; first | (rw [show nI 1 = bI true from rfl, bI_or, decide_eq_true (by omega)]) | (rw [show nI 0 = bI false from rfl, bI_or, decide_eq_false (by omega)])]
                        refine lv_istore (lv' := [(9, .int (bI (utC k b (fF n b) (w7 + 1)).2)), (7, .int (nI (m9 + 1))), (11, .int (nI (b w7))), (0, .ref m0), (1, .int (nI i)), (2, .int (nI k)), (3, .int (nI (fF n b))), (4, .int (nI (ctN (ltB k b) (fF n b)))), (5, .int (nI (lsW k b (fF n b)))), (6, .int (bI (decide (¬ ctN (ltB k b) (fF n b) = (fF n b))))), (8, .int (nI ps)), (10, .int (nI w7))]) hx hb dX6_looks_184 hl (by decide) rfl (fun ls hl => ?_)
                        refine lv_goto (tgt := 217) hx hb dX6_looks_186 (by decide) ?_
                        refine lv_iinc (v := (nI (w7 + 1))) (lv' := [(10, .int (nI (w7 + 1))), (9, .int (bI (utC k b (fF n b) (w7 + 1)).2)), (7, .int (nI (m9 + 1))), (11, .int (nI (b w7))), (0, .ref m0), (1, .int (nI i)), (2, .int (nI k)), (3, .int (nI (fF n b))), (4, .int (nI (ctN (ltB k b) (fF n b)))), (5, .int (nI (lsW k b (fF n b)))), (6, .int (bI (decide (¬ ctN (ltB k b) (fF n b) = (fF n b))))), (8, .int (nI ps))]) hx hb dX6_looks_217 hl (k := 11) rfl (ni_inc1 _) (by decide) rfl (fun ls hl => ?_)
                        refine lv_goto (tgt := 141) hx hb dX6_looks_220 (by decide) ?_
                        exact ih_141 (w7 + 1) (m9 + 1) ps (by omega) (by first | (rw [ctN_t (show eqB b w7 = true from decide_eq_true c_165)]; omega) | (rw [ctN_f (show eqB b w7 = false from decide_eq_false c_165)]; omega)) (by omega) (by first | (rw [utC_y hp.1 c_165]; exact hpd) | (rw [utC_n (by omega) c_165]; exact (decide_eq_true (by omega)).symm)) (by omega) ls (lv_sub hl [4, 5, 6, 7, 8, 9, 10, 2, 11, 1, 0] rfl)
                      · refine lv_iconst (v := (nI 1)) hx hb dX6_looks_178 (by decide +kernel) ?_
                        refine lv_goto (tgt := 183) hx hb dX6_looks_179 (by decide) ?_
                        refine lv_ior hx hb dX6_looks_183 ?_
                        rw [show (bI (utC k b (fF n b) w7).2) ||| (nI 1) = (bI (utC k b (fF n b) (w7 + 1)).2) from by rw [utC_y hp.1 c_165, hpd]; first | (rw [show nI 1 = bI true from rfl, bI_or, decide_eq_true (by omega)]) | (rw [show nI 0 = bI false from rfl, bI_or, decide_eq_false (by omega)])]
                        refine lv_istore (lv' := [(9, .int (bI (utC k b (fF n b) (w7 + 1)).2)), (7, .int (nI (m9 + 1))), (11, .int (nI (b w7))), (0, .ref m0), (1, .int (nI i)), (2, .int (nI k)), (3, .int (nI (fF n b))), (4, .int (nI (ctN (ltB k b) (fF n b)))), (5, .int (nI (lsW k b (fF n b)))), (6, .int (bI (decide (¬ ctN (ltB k b) (fF n b) = (fF n b))))), (8, .int (nI ps)), (10, .int (nI w7))]) hx hb dX6_looks_184 hl (by decide) rfl (fun ls hl => ?_)
                        refine lv_goto (tgt := 217) hx hb dX6_looks_186 (by decide) ?_
                        refine lv_iinc (v := (nI (w7 + 1))) (lv' := [(10, .int (nI (w7 + 1))), (9, .int (bI (utC k b (fF n b) (w7 + 1)).2)), (7, .int (nI (m9 + 1))), (11, .int (nI (b w7))), (0, .ref m0), (1, .int (nI i)), (2, .int (nI k)), (3, .int (nI (fF n b))), (4, .int (nI (ctN (ltB k b) (fF n b)))), (5, .int (nI (lsW k b (fF n b)))), (6, .int (bI (decide (¬ ctN (ltB k b) (fF n b) = (fF n b))))), (8, .int (nI ps))]) hx hb dX6_looks_217 hl (k := 11) rfl (ni_inc1 _) (by decide) rfl (fun ls hl => ?_)
                        refine lv_goto (tgt := 141) hx hb dX6_looks_220 (by decide) ?_
                        exact ih_141 (w7 + 1) (m9 + 1) ps (by omega) (by first | (rw [ctN_t (show eqB b w7 = true from decide_eq_true c_165)]; omega) | (rw [ctN_f (show eqB b w7 = false from decide_eq_false c_165)]; omega)) (by omega) (by first | (rw [utC_y hp.1 c_165]; exact hpd) | (rw [utC_n (by omega) c_165]; exact (decide_eq_true (by omega)).symm)) (by omega) ls (lv_sub hl [4, 5, 6, 7, 8, 9, 10, 2, 11, 1, 0] rfl)
              exact K4 _ (fF n b) 0 0 (⟨Nat.le_refl _, fF_le n b⟩) (by omega) (by omega) (by rw [utC_0]; rfl) (Nat.lt_succ_self _) ls (lv_sub hl [4, 5, 6, 7, 8, 9, 10, 3, 2, 1, 0] rfl)
            · refine lv_aload_n hx hb dX6_looks_65 rfl (lv_at hl 0 rfl) ?_
              refine lv_aload_n hx hb dX6_looks_66 rfl (lv_at hl 0 rfl) ?_
              refine lv_iload_n hx hb dX6_looks_67 rfl (lv_at hl 1 rfl) ?_
              refine lv_iload hx hb dX6_looks_68 (lv_at hl 7 rfl) ?_
              refine ro_V (As := [.int (nI i), .int (nI w7)]) (rest := [.ref m0]) (wc := [(m0, .inr (3, [.ref mb, .ref ml, .ref mm, .int (nI many), .int th, .ref mk])), (mb, .inl (T 0, 1920, .inl fb))]) (r := .int (nI (b w7))) ⟨hx, hb, hml, hown, hts⟩ (c_X6_atB l D T g m0 mb ml mm mk many th fb i w7 n b hi hrw (by omega)) (cwV 2 hts gX6_looks_X6_at rfl rfl rfl (by decide +kernel) ⟨Nat.le_of_ble_eq_true rfl, Nat.le_of_ble_eq_true rfl⟩) (va_recv hK hP (ci := 3) (q0 := 0) rfl rfl) hP hK hG hS [0, 2] rfl ⟨Nat.zero_le _, Nat.zero_le _⟩ rfl hl.1 (Nat.le_of_ble_eq_true rfl) dX6_looks_70 rfl ?_
              refine lv_iload_n hx hb dX6_looks_73 rfl (lv_at hl 2 rfl) ?_
              refine ro_V (As := [.int (nI (b w7)), .int (nI k)]) (rest := []) (wc := [(m0, .inr (3, [.ref mb, .ref ml, .ref mm, .int (nI many), .int th, .ref mk]))]) (r := .int (wV k (b w7))) ⟨hx, hb, hml, hown, hts⟩ (c_X6_worth l D T g m0 mb ml mm mk many th (b w7) (hb0 w7 (by omega)) k hk) (cwV 2 hts gX6_looks_X6_worth rfl rfl rfl (by decide +kernel) ⟨Nat.le_of_ble_eq_true rfl, Nat.le_of_ble_eq_true rfl⟩) (va_recv hK hP (ci := 3) (q0 := 0) rfl rfl) hP hK hG hS [0] rfl ⟨Nat.zero_le _, Nat.zero_le _⟩ rfl hl.1 (Nat.le_of_ble_eq_true rfl) dX6_looks_74 rfl ?_
              by_cases hw6 : wN k (b w7) < 64
              · have hL8 : ltB k b w7 = true := decide_eq_true hw6
                rw [wV_pos hw6]
                refine lv_istore (lv' := [(8, .int (nI (wN k (b w7)))), (0, .ref m0), (1, .int (nI i)), (2, .int (nI k)), (3, .int (nI (fF n b))), (4, .int (nI (ctN (ltB k b) w7))), (5, .int (nI (lsW k b w7))), (6, .int (bI (decide (¬ ctN (ltB k b) w7 = w7)))), (7, .int (nI w7))]) hx hb dX6_looks_77 hl (by decide) rfl (fun ls hl => ?_)
                refine lv_iload hx hb dX6_looks_79 (lv_at hl 7 rfl) ?_
                refine lv_iload hx hb dX6_looks_81 (lv_at hl 0 rfl) ?_
                refine ln_if_ge_t (tgt := 90) hx hb (by omega) dX6_looks_83 (by decide) ?_
                refine lv_iconst (v := (nI 0)) hx hb dX6_looks_90 (by decide +kernel) ?_
                refine lv_ior hx hb dX6_looks_91 ?_
                rw [show (bI (decide (¬ ctN (ltB k b) w7 = w7))) ||| (nI 0) = (bI (decide (¬ ctN (ltB k b) (w7 + 1) = w7 + 1))) from by rw [ctN_t hL8, show nI 0 = bI false from rfl, bI_or, Bool.or_false]; exact congrArg bI (decide_eq_decide.mpr (by omega))]
                refine lv_istore (lv' := [(6, .int (bI (decide (¬ ctN (ltB k b) (w7 + 1) = w7 + 1)))), (8, .int (nI (wN k (b w7)))), (0, .ref m0), (1, .int (nI i)), (2, .int (nI k)), (3, .int (nI (fF n b))), (4, .int (nI (ctN (ltB k b) w7))), (5, .int (nI (lsW k b w7))), (7, .int (nI w7))]) hx hb dX6_looks_92 hl (by decide) rfl (fun ls hl => ?_)
                refine lv_iload hx hb dX6_looks_94 (lv_at hl 1 rfl) ?_
                refine ln_if_lt_f (tgt := 104) hx hb (by omega) dX6_looks_96 (by decide) ?_
                refine lv_iload hx hb dX6_looks_99 (lv_at hl 1 rfl) ?_
                refine lv_goto (tgt := 106) hx hb dX6_looks_101 (by decide) ?_
                rw [show wN k (b w7) = lsW k b (w7 + 1) from (if_pos hL8).symm]
                refine lv_istore (lv' := [(5, .int (nI (lsW k b (w7 + 1)))), (6, .int (bI (decide (¬ ctN (ltB k b) (w7 + 1) = w7 + 1)))), (8, .int (nI (wN k (b w7)))), (0, .ref m0), (1, .int (nI i)), (2, .int (nI k)), (3, .int (nI (fF n b))), (4, .int (nI (ctN (ltB k b) w7))), (7, .int (nI w7))]) hx hb dX6_looks_106 hl (by decide) rfl (fun ls hl => ?_)
                refine lv_iload hx hb dX6_looks_108 (lv_at hl 7 rfl) ?_
                refine lv_iload hx hb dX6_looks_110 (lv_at hl 2 rfl) ?_
                refine ln_if_lt_f (tgt := 119) hx hb (by omega) dX6_looks_112 (by decide) ?_
                refine lv_iconst (v := (nI 1)) hx hb dX6_looks_115 (by decide +kernel) ?_
                refine lv_goto (tgt := 120) hx hb dX6_looks_116 (by decide) ?_
                refine ln_add hx hb dX6_looks_120 ?_
                rw [show (ctN (ltB k b) w7) + 1 = ctN (ltB k b) (w7 + 1) from (ctN_t hL8).symm]
                refine lv_istore (lv' := [(4, .int (nI (ctN (ltB k b) (w7 + 1)))), (5, .int (nI (lsW k b (w7 + 1)))), (6, .int (bI (decide (¬ ctN (ltB k b) (w7 + 1) = w7 + 1)))), (8, .int (nI (wN k (b w7)))), (0, .ref m0), (1, .int (nI i)), (2, .int (nI k)), (3, .int (nI (fF n b))), (7, .int (nI w7))]) hx hb dX6_looks_121 hl (by decide) rfl (fun ls hl => ?_)
                refine lv_iinc (v := (nI (w7 + 1))) (lv' := [(7, .int (nI (w7 + 1))), (4, .int (nI (ctN (ltB k b) (w7 + 1)))), (5, .int (nI (lsW k b (w7 + 1)))), (6, .int (bI (decide (¬ ctN (ltB k b) (w7 + 1) = w7 + 1)))), (8, .int (nI (wN k (b w7)))), (0, .ref m0), (1, .int (nI i)), (2, .int (nI k)), (3, .int (nI (fF n b)))]) hx hb dX6_looks_123 hl (k := 8) rfl (ni_inc1 _) (by decide) rfl (fun ls hl => ?_)
                refine lv_goto (tgt := 59) hx hb dX6_looks_126 (by decide) ?_
                exact ih_59 (w7 + 1) (by omega) (by omega) ls (lv_sub hl [5, 6, 7, 8, 1, 2, 3, 0] rfl)
              · have hL8 : ltB k b w7 = false := decide_eq_false hw6
                rw [wV_no hw6]
                refine lv_istore (lv' := [(8, .int (-1)), (0, .ref m0), (1, .int (nI i)), (2, .int (nI k)), (3, .int (nI (fF n b))), (4, .int (nI (ctN (ltB k b) w7))), (5, .int (nI (lsW k b w7))), (6, .int (bI (decide (¬ ctN (ltB k b) w7 = w7)))), (7, .int (nI w7))]) hx hb dX6_looks_77 hl (by decide) rfl (fun ls hl => ?_)
                refine lv_iload hx hb dX6_looks_79 (lv_at hl 7 rfl) ?_
                refine lv_iload hx hb dX6_looks_81 (lv_at hl 0 rfl) ?_
                refine lv_if_ge (tgt := 90) hx hb dX6_looks_83 (by decide) (fun q9 => absurd q9 (by decide)) (fun _ => ?_)
                refine lv_iconst (v := (nI 1)) hx hb dX6_looks_86 (by decide +kernel) ?_
                refine lv_goto (tgt := 91) hx hb dX6_looks_87 (by decide) ?_
                refine lv_ior hx hb dX6_looks_91 ?_
                rw [show (bI (decide (¬ ctN (ltB k b) w7 = w7))) ||| (nI 1) = (bI (decide (¬ ctN (ltB k b) (w7 + 1) = w7 + 1))) from by have h9 := ctN_le (ltB k b) w7; rw [ctN_f hL8, show nI 1 = bI true from rfl, bI_or, Bool.or_true, decide_eq_true (by omega)]]
                refine lv_istore (lv' := [(6, .int (bI (decide (¬ ctN (ltB k b) (w7 + 1) = w7 + 1)))), (8, .int (-1)), (0, .ref m0), (1, .int (nI i)), (2, .int (nI k)), (3, .int (nI (fF n b))), (4, .int (nI (ctN (ltB k b) w7))), (5, .int (nI (lsW k b w7))), (7, .int (nI w7))]) hx hb dX6_looks_92 hl (by decide) rfl (fun ls hl => ?_)
                refine lv_iload hx hb dX6_looks_94 (lv_at hl 1 rfl) ?_
                refine lv_if_lt (tgt := 104) hx hb dX6_looks_96 (by decide) (fun _ => ?_) (fun q9 => absurd (by decide) q9)
                refine lv_iload hx hb dX6_looks_104 (lv_at hl 7 rfl) ?_
                rw [show lsW k b w7 = lsW k b (w7 + 1) from (if_neg (show ¬ isL k (b w7) = true from by rw [show isL k (b w7) = false from hL8]; decide)).symm]
                refine lv_istore (lv' := [(5, .int (nI (lsW k b (w7 + 1)))), (6, .int (bI (decide (¬ ctN (ltB k b) (w7 + 1) = w7 + 1)))), (8, .int (-1)), (0, .ref m0), (1, .int (nI i)), (2, .int (nI k)), (3, .int (nI (fF n b))), (4, .int (nI (ctN (ltB k b) w7))), (7, .int (nI w7))]) hx hb dX6_looks_106 hl (by decide) rfl (fun ls hl => ?_)
                refine lv_iload hx hb dX6_looks_108 (lv_at hl 7 rfl) ?_
                refine lv_iload hx hb dX6_looks_110 (lv_at hl 2 rfl) ?_
                refine lv_if_lt (tgt := 119) hx hb dX6_looks_112 (by decide) (fun _ => ?_) (fun q9 => absurd (by decide) q9)
                refine lv_iconst (v := (nI 0)) hx hb dX6_looks_119 (by decide +kernel) ?_
                refine ln_add hx hb dX6_looks_120 ?_
                rw [show (ctN (ltB k b) w7) + 0 = ctN (ltB k b) (w7 + 1) from (ctN_f hL8).symm]
                refine lv_istore (lv' := [(4, .int (nI (ctN (ltB k b) (w7 + 1)))), (5, .int (nI (lsW k b (w7 + 1)))), (6, .int (bI (decide (¬ ctN (ltB k b) (w7 + 1) = w7 + 1)))), (8, .int (-1)), (0, .ref m0), (1, .int (nI i)), (2, .int (nI k)), (3, .int (nI (fF n b))), (7, .int (nI w7))]) hx hb dX6_looks_121 hl (by decide) rfl (fun ls hl => ?_)
                refine lv_iinc (v := (nI (w7 + 1))) (lv' := [(7, .int (nI (w7 + 1))), (4, .int (nI (ctN (ltB k b) (w7 + 1)))), (5, .int (nI (lsW k b (w7 + 1)))), (6, .int (bI (decide (¬ ctN (ltB k b) (w7 + 1) = w7 + 1)))), (8, .int (-1)), (0, .ref m0), (1, .int (nI i)), (2, .int (nI k)), (3, .int (nI (fF n b)))]) hx hb dX6_looks_123 hl (k := 8) rfl (ni_inc1 _) (by decide) rfl (fun ls hl => ?_)
                refine lv_goto (tgt := 59) hx hb dX6_looks_126 (by decide) ?_
                exact ih_59 (w7 + 1) (by omega) (by omega) ls (lv_sub hl [5, 6, 7, 8, 1, 2, 3, 0] rfl)
        exact K2 _ 0 (by omega) (Nat.lt_succ_self _) ls (lv_sub hl [4, 5, 6, 7, 3, 2, 1, 0] rfl)
      · obtain ⟨j1, rfl⟩ : ∃ j1, j = j1 + 1 := ⟨j - 1, by have := pd_pos c_19; omega⟩
        rw [pd_s] at hl
        refine lv_aload_n hx hb dX6_looks_22 rfl (lv_at hl 0 rfl) ?_
        refine lv_iload_n hx hb dX6_looks_23 rfl (lv_at hl 1 rfl) ?_
        refine lv_iload hx hb dX6_looks_24 (lv_at hl 4 rfl) ?_
        refine ro_V (As := [.int (nI i), .int (nI j1)]) (rest := []) (wc := [(m0, .inr (3, [.ref mb, .ref ml, .ref mm, .int (nI many), .int th, .ref mk])), (mb, .inl (T 0, 1920, .inl fb))]) (r := .int (nI (b j1))) ⟨hx, hb, hml, hown, hts⟩ (c_X6_atB l D T g m0 mb ml mm mk many th fb i j1 n b hi hrw (by omega)) (cwV 2 hts gX6_looks_X6_at rfl rfl rfl (by decide +kernel) ⟨Nat.le_of_ble_eq_true rfl, Nat.le_of_ble_eq_true rfl⟩) (va_recv hK hP (ci := 3) (q0 := 0) rfl rfl) hP hK hG hS [0, 2] rfl ⟨Nat.zero_le _, Nat.zero_le _⟩ rfl hl.1 (Nat.le_of_ble_eq_true rfl) dX6_looks_26 rfl ?_
        refine lv_bipush (v := (nI 61)) hx hb dX6_looks_29 (by decide +kernel) ?_
        have hx1 := hb0 j1 (by omega)
        refine ln_icmp_ne (tgt := 39) hx hb ⟨by omega, by omega⟩ dX6_looks_31 (by decide) (fun c_31 => ?_) (fun c_31 => ?_)
        · refine lv_iload_n hx hb dX6_looks_39 rfl (lv_at hl 3 rfl) ?_
          refine lv_istore_n (lv' := [(3, .int (nI x)), (0, .ref m0), (1, .int (nI i)), (2, .int (nI k)), (4, .int (nI j1))]) hx hb dX6_looks_40 rfl hl (by decide) rfl (fun ls hl => ?_)
          refine lv_iinc (v := (pd j1)) (lv' := [(4, .int (pd j1)), (3, .int (nI x)), (0, .ref m0), (1, .int (nI i)), (2, .int (nI k))]) hx hb dX6_looks_41 hl (k := 4) rfl (pd_inc j1) (by decide) rfl (fun ls hl => ?_)
          refine lv_goto (tgt := 17) hx hb dX6_looks_44 (by decide) ?_
          exact ih_17 j1 x (by omega) (by first | exact fun y h1 h2 => by omega | exact fun y h1 h2 => (Nat.lt_or_ge y (j1 + 1)).elim (fun r => by have e9 : y = j1 := (by omega); subst e9; exact decide_eq_false c_31) (fun r => hq y r h2)) (by first | exact Or.inr (decide_eq_true c_31) | exact hxn) (by omega) ls (lv_sub hl [2, 3, 4, 1, 0] rfl)
        · refine lv_iload hx hb dX6_looks_34 (lv_at hl 4 rfl) ?_
          refine lv_goto (tgt := 40) hx hb dX6_looks_36 (by decide) ?_
          refine lv_istore_n (lv' := [(3, .int (nI j1)), (0, .ref m0), (1, .int (nI i)), (2, .int (nI k)), (4, .int (nI j1))]) hx hb dX6_looks_40 rfl hl (by decide) rfl (fun ls hl => ?_)
          refine lv_iinc (v := (pd j1)) (lv' := [(4, .int (pd j1)), (3, .int (nI j1)), (0, .ref m0), (1, .int (nI i)), (2, .int (nI k))]) hx hb dX6_looks_41 hl (k := 4) rfl (pd_inc j1) (by decide) rfl (fun ls hl => ?_)
          refine lv_goto (tgt := 17) hx hb dX6_looks_44 (by decide) ?_
          exact ih_17 j1 j1 (by omega) (by first | exact fun y h1 h2 => by omega | exact fun y h1 h2 => (Nat.lt_or_ge y (j1 + 1)).elim (fun r => by have e9 : y = j1 := (by omega); subst e9; exact decide_eq_false c_31) (fun r => hq y r h2)) (by first | exact Or.inr (decide_eq_true c_31) | exact hxn) (by omega) ls (lv_sub hl [2, 3, 4, 1, 0] rfl)
  exact K1 _ n n (⟨Nat.le_refl _, Nat.le_refl _⟩) (fun y h1 h2 => by omega) (Or.inl rfl) (Nat.lt_succ_self _) ls (lv_sub hl [2, 3, 4, 1, 0] rfl)
