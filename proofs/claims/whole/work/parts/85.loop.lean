theorem nI_all (x : Int32) : ∃ z : Nat, z < 2 ^ 32 ∧ x = nI z := ⟨x.toBitVec.toNat, x.toBitVec.isLt, Int32.toBitVec_inj.mp (by simp [nI])⟩
theorem le11 {L q : Nat} (hL : L ≤ 5632) (hq : q ≤ 5632) : (nI L - nI 11 < nI q) ↔ L < q + 11 := by
  have e : (nI L - nI 11).toInt = (L : Int) - 11 := by
    rw [Int32.toInt_sub, nI_toInt (by omega), nI_toInt (by omega)]
    exact Int.bmod_eq_of_le (by omega) (by omega)
  rw [Int32.lt_iff_toInt_lt, e, nI_toInt (by omega)]; omega
set_option maxHeartbeats 4000000 in
theorem law_turn (l : Launch) (D : va_G) (T : Nat → ClassId) (g : Nat → Nat) (a b : Nat → Nat) (hl9 : l.stackTraces = false) {p : Program} {e : Env} {s : State} {m : MethodId} {below : List Frame} {meth : Method} {c : Code} {H : Heap} {locs : List Loc} {cells slots : Nat} {Q : State → Prop} {ls : Array Slot} {zb L q : Nat} {xs : Nat → Int32}
    (hx : p.tables.exec = Jvm.exec) (hb : c.code = cL_law) (hml : c.maxLocals = 9) (hown : s.vm.findClass RL = some m.cls) (hts : ∀ w ∈ wsL_law, w.before #[Value.ref zb] s = true)
    (hX : va_X zb L xs s s.heap) (hbl : zb < s.heap.size) (hq : 11 * q + 10 < L) (hL : L ≤ 5632) (hK : va_K D cls (tys T) s) (hG : GX g (fun q => s.heap.size ≤ q) s s.heap) (hN : NC s)
    {u : LSt} {v : MSt} {Bw : Nat → Nat → Nat} (hu : LIu u Bw) (hv : MR v.2.2.2.1 v.2.2.1 u.2.1 Bw) (hP : va_P D cls (LW T a u ++ MW T b v) H) (hD : va_D (fun q => s.heap.size ≤ q) (LW T a u ++ MW T b v)) (hS : va_S (fun q => s.heap.size ≤ q) s.heap H locs) (hcs : cells + 5 ≤ 603072 ∧ slots + 1106 ≤ 7219306)
    (hl : lv_has ls 9 [(0, .ref zb), (1, .ref (a 0)), (2, .ref (b 0)), (3, .ref (a 23)), (4, .ref (a 24)), (5, .int (nI (11 * q)))])
    (kk : ∀ (u : LSt) (v : MSt) (Bw : Nat → Nat → Nat) (H : Heap) (locs : List Loc) (ls : Array Slot), LIu u Bw → MR v.2.2.2.1 v.2.2.1 u.2.1 Bw → va_P D cls (LW T a u ++ MW T b v) H → va_D (fun q => s.heap.size ≤ q) (LW T a u ++ MW T b v) → va_S (fun q => s.heap.size ≤ q) s.heap H locs → lv_has ls 9 [(0, .ref zb), (1, .ref (a 0)), (2, .ref (b 0)), (3, .ref (a 23)), (4, .ref (a 24)), (5, .int (nI (11 * q)))] → W p l e room_1 s m #[Value.ref zb] below meth c H locs (cells + 5) (slots + 1106) Q (F0 m 1670 ls [])) :
    W p l e room_1 s m #[Value.ref zb] below meth c H locs cells slots Q (F0 m 38 ls []) := by
  have hbA : ¬ s.heap.size ≤ zb := Nat.not_le.mpr hbl
  refine lv_aload_n hx hb dL_law_38 rfl (lv_at hl 0 rfl) ?_
  refine lv_iload hx hb dL_law_39 (lv_at hl 5 rfl) ?_
  refine sc_ld hx hb hX hbl hbA hS ⟨by omega, hL⟩ dL_law_41 ?_
  obtain ⟨z, hz, e9⟩ := nI_all (xs (11 * q))
  rw [e9]
  refine lv_bipush (v := nI 31) hx hb dL_law_42 (by decide +kernel) ?_
  refine ln_and (b := 31) hx hb 5 hz (by decide +kernel) dL_law_44 ?_
  have hk := Nat.mod_lt z (show 0 < 2 ^ 5 from by decide)
  generalize z % 2 ^ 5 = k at hk ⊢
  by_cases h20 : k < 20
  · have h : k = 0 ∨ k = 1 ∨ k = 2 ∨ k = 3 ∨ k = 4 ∨ k = 5 ∨ k = 6 ∨ k = 7 ∨ k = 8 ∨ k = 9 ∨ k = 10 ∨ k = 11 ∨ k = 12 ∨ k = 13 ∨ k = 14 ∨ k = 15 ∨ k = 16 ∨ k = 17 ∨ k = 18 ∨ k = 19 := by omega
    rcases h with rfl | rfl | rfl | rfl | rfl | rfl | rfl | rfl | rfl | rfl | rfl | rfl | rfl | rfl | rfl | rfl | rfl | rfl | rfl | rfl
    · refine lv_tableIn (off := 95) (tgt := 140) hx hb dL_law_45 (by decide +kernel) (by decide +kernel) (by decide +kernel) (by decide) ?_
      exact st_add l D T g a b hl9 hx hb hml hown hts hX hbl hq hL hK hG hN hu hv hP hD hS hcs hl kk
    · refine lv_tableIn (off := 163) (tgt := 208) hx hb dL_law_45 (by decide +kernel) (by decide +kernel) (by decide +kernel) (by decide) ?_
      exact st_addMore l D T g a b hl9 hx hb hml hown hts hX hbl hq hL hK hG hN hu hv hP hD hS hcs hl kk
    · refine lv_tableIn (off := 337) (tgt := 382) hx hb dL_law_45 (by decide +kernel) (by decide +kernel) (by decide +kernel) (by decide) ?_
      exact st_put l D T g a b hl9 hx hb hml hown hts hX hbl hq hL hK hG hN hu hv hP hD hS hcs hl kk
    · refine lv_tableIn (off := 417) (tgt := 462) hx hb dL_law_45 (by decide +kernel) (by decide +kernel) (by decide +kernel) (by decide) ?_
      exact st_insert l D T g a b hl9 hx hb hml hown hts hX hbl hq hL hK hG hN hu hv hP hD hS hcs hl kk
    · refine lv_tableIn (off := 497) (tgt := 542) hx hb dL_law_45 (by decide +kernel) (by decide +kernel) (by decide +kernel) (by decide) ?_
      exact st_remove l D T g a b hl9 hx hb hml hown hts hX hbl hq hL hK hG hN hu hv hP hD hS hcs hl kk
    · refine lv_tableIn (off := 577) (tgt := 622) hx hb dL_law_45 (by decide +kernel) (by decide +kernel) (by decide +kernel) (by decide) ?_
      exact st_length l D T g a b hl9 hx hb hml hown hts hX hbl hq hL hK hG hN hu hv hP hD hS hcs hl kk
    · refine lv_tableIn (off := 633) (tgt := 678) hx hb dL_law_45 (by decide +kernel) (by decide +kernel) (by decide +kernel) (by decide) ?_
      exact st_get l D T g a b hl9 hx hb hml hown hts hX hbl hq hL hK hG hN hu hv hP hD hS hcs hl kk
    · refine lv_tableIn (off := 701) (tgt := 746) hx hb dL_law_45 (by decide +kernel) (by decide +kernel) (by decide +kernel) (by decide) ?_
      exact st_copy l D T g a b hl9 hx hb hml hown hts hX hbl hq hL hK hG hN hu hv hP hD hS hcs hl kk
    · refine lv_tableIn (off := 769) (tgt := 814) hx hb dL_law_45 (by decide +kernel) (by decide +kernel) (by decide +kernel) (by decide) ?_
      exact st_isLike l D T g a b hl9 hx hb hml hown hts hX hbl hq hL hK hG hN hu hv hP hD hS hcs hl kk
    · refine lv_tableIn (off := 844) (tgt := 889) hx hb dL_law_45 (by decide +kernel) (by decide +kernel) (by decide +kernel) (by decide) ?_
      by_cases hfz : xs (11 * q + 4) = 0
      · exact st_write_0 l D T g a b hl9 hx hb hml hown hts hX hbl hq hL hK hG hN hu hv hP hD hS hcs hl hfz kk
      · exact st_write_1 l D T g a b hl9 hx hb hml hown hts hX hbl hq hL hK hG hN hu hv hP hD hS hcs hl hfz kk
    · refine lv_tableIn (off := 952) (tgt := 997) hx hb dL_law_45 (by decide +kernel) (by decide +kernel) (by decide +kernel) (by decide) ?_
      by_cases hfz : xs (11 * q + 4) = 0
      · exact st_writeText_0 l D T g a b hl9 hx hb hml hown hts hX hbl hq hL hK hG hN hu hv hP hD hS hcs hl hfz kk
      · exact st_writeText_1 l D T g a b hl9 hx hb hml hown hts hX hbl hq hL hK hG hN hu hv hP hD hS hcs hl hfz kk
    · refine lv_tableIn (off := 1060) (tgt := 1105) hx hb dL_law_45 (by decide +kernel) (by decide +kernel) (by decide +kernel) (by decide) ?_
      exact st_read l D T g a b hl9 hx hb hml hown hts hX hbl hq hL hK hG hN hu hv hP hD hS hcs hl kk
    · refine lv_tableIn (off := 1140) (tgt := 1185) hx hb dL_law_45 (by decide +kernel) (by decide +kernel) (by decide +kernel) (by decide) ?_
      exact st_look l D T g a b hl9 hx hb hml hown hts hX hbl hq hL hK hG hN hu hv hP hD hS hcs hl kk
    · refine lv_tableIn (off := 1208) (tgt := 1253) hx hb dL_law_45 (by decide +kernel) (by decide +kernel) (by decide +kernel) (by decide) ?_
      exact st_letters l D T g a b hl9 hx hb hml hown hts hX hbl hq hL hK hG hN hu hv hP hD hS hcs hl kk
    · refine lv_tableIn (off := 1276) (tgt := 1321) hx hb dL_law_45 (by decide +kernel) (by decide +kernel) (by decide +kernel) (by decide) ?_
      exact st_isWritten l D T g a b hl9 hx hb hml hown hts hX hbl hq hL hK hG hN hu hv hP hD hS hcs hl kk
    · refine lv_tableIn (off := 1351) (tgt := 1396) hx hb dL_law_45 (by decide +kernel) (by decide +kernel) (by decide +kernel) (by decide) ?_
      exact st_plain l D T g a b hl9 hx hb hml hown hts hX hbl hq hL hK hG hN hu hv hP hD hS hcs hl kk
    · refine lv_tableIn (off := 1419) (tgt := 1464) hx hb dL_law_45 (by decide +kernel) (by decide +kernel) (by decide +kernel) (by decide) ?_
      exact st_letterShare l D T g a b hl9 hx hb hml hown hts hX hbl hq hL hK hG hN hu hv hP hD hS hcs hl kk
    · refine lv_tableIn (off := 1509) (tgt := 1554) hx hb dL_law_45 (by decide +kernel) (by decide +kernel) (by decide +kernel) (by decide) ?_
      exact st_growth l D T g a b hl9 hx hb hml hown hts hX hbl hq hL hK hG hN hu hv hP hD hS hcs hl kk
    · refine lv_tableIn (off := 1598) (tgt := 1643) hx hb dL_law_45 (by decide +kernel) (by decide +kernel) (by decide +kernel) (by decide) ?_
      exact st_checksum l D T g a b hl9 hx hb hml hown hts hX hbl hq hL hK hG hN hu hv hP hD hS hcs hl kk
    · refine lv_tableIn (off := 1612) (tgt := 1657) hx hb dL_law_45 (by decide +kernel) (by decide +kernel) (by decide +kernel) (by decide) ?_
      exact st_isTrue l D T g a b hl9 hx hb hml hown hts hX hbl hq hL hK hG hN hu hv hP hD hS hcs hl kk
  · refine lv_tableOut (tgt := 1670) hx hb dL_law_45 (Or.inr (by rw [nI_toInt (by omega)]; omega)) (by decide) ?_
    refine W.widen (k := cells + 5) (n := slots + 1106) (by omega) (by omega) ?_
    exact kk u v Bw H locs ls hu hv hP hD hS hl
set_option maxHeartbeats 4000000 in
theorem law_head (l : Launch) (D : va_G) (T : Nat → ClassId) (g : Nat → Nat) (a b : Nat → Nat) (hl9 : l.stackTraces = false) {p : Program} {e : Env} {s : State} {m : MethodId} {below : List Frame} {meth : Method} {c : Code} {H : Heap} {locs : List Loc} {cells slots : Nat} {Q : State → Prop} {ls : Array Slot} {zb L q : Nat} {xs : Nat → Int32}
    (hx : p.tables.exec = Jvm.exec) (hb : c.code = cL_law) (hml : c.maxLocals = 9) (hown : s.vm.findClass RL = some m.cls) (hts : ∀ w ∈ wsL_law, w.before #[Value.ref zb] s = true)
    (hX : va_X zb L xs s s.heap) (hbl : zb < s.heap.size) (hL : L ≤ 5632) (hK : va_K D cls (tys T) s) (hG : GX g (fun q => s.heap.size ≤ q) s s.heap) (hN : NC s)
    {u : LSt} {v : MSt} {Bw : Nat → Nat → Nat} (hu : LIu u Bw) (hv : MR v.2.2.2.1 v.2.2.1 u.2.1 Bw) (hP : va_P D cls (LW T a u ++ MW T b v) H) (hD : va_D (fun q => s.heap.size ≤ q) (LW T a u ++ MW T b v)) (hS : va_S (fun q => s.heap.size ≤ q) s.heap H locs) (hcs : cells + 5 ≤ 603072 ∧ slots + 1106 ≤ 7219306)
    (hl : lv_has ls 9 [(0, .ref zb), (1, .ref (a 0)), (2, .ref (b 0)), (3, .ref (a 23)), (4, .ref (a 24)), (5, .int (nI (11 * q)))]) (hq0 : 11 * q ≤ L)
    (kx : W p l e room_1 s m #[Value.ref zb] below meth c H locs cells slots Q (F0 m 1676 ls [])) (kb : 11 * q + 10 < L → W p l e room_1 s m #[Value.ref zb] below meth c H locs cells slots Q (F0 m 38 ls [])) :
    W p l e room_1 s m #[Value.ref zb] below meth c H locs cells slots Q (F0 m 28 ls []) := by
  have hbA : ¬ s.heap.size ≤ zb := Nat.not_le.mpr hbl
  refine lv_iload hx hb dL_law_28 (lv_at hl 5 rfl) ?_
  refine lv_aload_n hx hb dL_law_30 rfl (lv_at hl 0 rfl) ?_
  refine va_slen hx hb hX hbl hbA hS dL_law_31 ?_
  refine lv_bipush (v := nI 11) hx hb dL_law_32 (by decide +kernel) ?_
  refine lv_isub hx hb dL_law_34 ?_
  refine lv_icmp_gt (tgt := 1676) hx hb dL_law_35 (by decide) (fun _ => kx) (fun hn => kb ?_)
  exact Nat.lt_of_not_le fun z => hn ((le11 hL (by omega)).mpr (by omega))
set_option maxHeartbeats 4000000 in
theorem law_loop (l : Launch) (D : va_G) (T : Nat → ClassId) (g : Nat → Nat) (a b : Nat → Nat) (hl9 : l.stackTraces = false) {p : Program} {e : Env} {s : State} {m : MethodId} {below : List Frame} {meth : Method} {c : Code} {Q : State → Prop} {zb L : Nat} {xs : Nat → Int32}
    (hx : p.tables.exec = Jvm.exec) (hb : c.code = cL_law) (hml : c.maxLocals = 9) (hown : s.vm.findClass RL = some m.cls) (hts : ∀ w ∈ wsL_law, w.before #[Value.ref zb] s = true)
    (hX : va_X zb L xs s s.heap) (hbl : zb < s.heap.size) (hL : L ≤ 5632) (hK : va_K D cls (tys T) s) (hG : GX g (fun q => s.heap.size ≤ q) s s.heap) (hN : NC s)
    (kx : ∀ (H : Heap) (ls : Array Slot), W p l e room_1 s m #[Value.ref zb] below meth c H [] 603072 7219306 Q (F0 m 1677 ls [.int (nI 1)])) :
    ∀ (n q : Nat) (H : Heap) (locs : List Loc) (cells slots : Nat) (ls : Array Slot) (u : LSt) (v : MSt) (Bw : Nat → Nat → Nat), L ≤ 11 * q + 11 * n + 10 → 11 * q ≤ L → cells + 5 * n ≤ 603060 → slots + 1106 * n ≤ 7218000 → LIu u Bw → MR v.2.2.2.1 v.2.2.1 u.2.1 Bw → va_P D cls (LW T a u ++ MW T b v) H → va_D (fun q => s.heap.size ≤ q) (LW T a u ++ MW T b v) → va_S (fun q => s.heap.size ≤ q) s.heap H locs → lv_has ls 9 [(0, .ref zb), (1, .ref (a 0)), (2, .ref (b 0)), (3, .ref (a 23)), (4, .ref (a 24)), (5, .int (nI (11 * q)))] → W p l e room_1 s m #[Value.ref zb] below meth c H locs cells slots Q (F0 m 28 ls []) := by
  have hexit : ∀ (H : Heap) (locs : List Loc) (cells slots : Nat) (ls : Array Slot), cells ≤ 603072 → slots ≤ 7219306 → va_S (fun q => s.heap.size ≤ q) s.heap H locs → W p l e room_1 s m #[Value.ref zb] below meth c H locs cells slots Q (F0 m 1676 ls []) := by
    intro H locs cells slots ls h1 h2 hS
    refine lv_iconst (v := nI 1) hx hb dL_law_1676 (by decide +kernel) ?_
    refine W.widen (k := 603072) (n := 7219306) h1 h2 ?_
    exact W.forget (locs := []) (L := locs) hS.2.2 (kx H ls)
  intro n
  induction n with
  | zero =>
    intro q H locs cells slots ls u v Bw h1 h2 h3 h4 hu hv hP hD hS hl
    exact law_head l D T g a b hl9 hx hb hml hown hts hX hbl hL hK hG hN hu hv hP hD hS (by omega) hl h2 (hexit H locs cells slots ls (by omega) (by omega) hS) (fun hq => absurd hq (by omega))
  | succ n ih =>
    intro q H locs cells slots ls u v Bw h1 h2 h3 h4 hu hv hP hD hS hl
    refine law_head l D T g a b hl9 hx hb hml hown hts hX hbl hL hK hG hN hu hv hP hD hS (by omega) hl h2 (hexit H locs cells slots ls (by omega) (by omega) hS) (fun hq => ?_)
    refine law_turn l D T g a b hl9 hx hb hml hown hts hX hbl hq hL hK hG hN hu hv hP hD hS (by omega) hl (fun u v Bw H locs ls hu hv hP hD hS hl => ?_)
    refine lv_iinc (v := nI (11 * q + 11)) (lv' := [(5, .int (nI (11 * q + 11))), (0, .ref zb), (1, .ref (a 0)), (2, .ref (b 0)), (3, .ref (a 23)), (4, .ref (a 24))]) hx hb dL_law_1670 hl (k := 5) rfl (ni_inc11 _) (by decide) rfl (fun ls hl => ?_)
    refine lv_goto (tgt := 28) hx hb dL_law_1673 (by decide) ?_
    rw [show 11 * q + 11 = 11 * (q + 1) from by omega] at hl
    exact ih (q + 1) H locs (cells + 5) (slots + 1106) ls u v Bw (by omega) (by omega) (by omega) (by omega) hu hv hP hD hS (lv_sub hl [1, 2, 3, 4, 5, 0] rfl)
