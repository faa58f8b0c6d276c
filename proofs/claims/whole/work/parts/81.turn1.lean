/-! one turn of the law's loop -/
section LAWV
variable {p : Program} {l : Launch} {e : Env} {R : Room} {s : State} {m : MethodId} {args : Array Value} {below : List Frame} {meth : Method} {c : Code} {H : Heap} {locs : List Loc} {cells slots : Nat} {Q : State → Prop}
variable {cc bytes : ByteArray} {pc maxL nL n index : Nat} {ls : Array Slot} {rest : List Value} {ret9 : Option FieldType}
variable {D : va_G} {T : Nat → ClassId} {g : Nat → Nat} {A : Nat → Prop} {ws wc : va_W} {H0 : Heap} {y : MethodName} {wy Ts : List Cond} {rm : Room} {own C : String} {b : Addr} {As : List Value} {r : Value}
theorem mun_S {S : Type} {res : S → Option Value} {post : S → Prop} {w1 : S → va_W} {mc ms : Nat} {hh : List (Nat × Nat × Nat × Nat)} (F : CallFix p m c cc nL s args Ts own) (hM : MUN l y wy rm D T g As wc H.size res post w1 mc ms) (cw : vx_CSW R s args own index y bytes maxL ret9 hh wy rm mc ms n) (hN : NC s)
    (hP : va_P D cls ws H) (hD : va_D A ws) (hK : va_K D cls (tys T) s) (hG : GX g A s s.heap) (hS : va_S A s.heap H locs) (hA : ∀ q, s.heap.size ≤ q → A q) (isC isR : List Nat) {wr : va_W} (hC : isC.map (fun i => ws[i]?) = wc.map some) (hnC : va_nd isC = true) (hR : isR.map (fun i => ws[i]?) = wr.map some) (hnR : va_nd isR = true) (hdis : ∀ i ∈ isR, i ∉ isC) (hf : cells + mc ≤ R.cells ∧ slots + ms ≤ R.slots)
    (hn : As.length = n) (hsize : ls.size = nL) (hW : (rest.map fun v => v.category).sum ≤ 8) (hdg : decode cc pc = .ok (.invokestatic index, 3)) {st : List Value} (hst : st = As.reverse ++ rest)
    (kk : ∀ (u : S) (H1 : Heap) (locs1 : List Loc), post u → va_P D cls (wr ++ w1 u) H1 → va_D A (wr ++ w1 u) → va_S A s.heap H1 locs1 → W p l e R s m args below meth c H1 locs1 (cells + mc) (slots + ms) Q (F0 m (pc + 3) ls ((res u).toList ++ rest))) : W p l e R s m args below meth c H locs cells slots Q (F0 m pc ls st) :=
  mu_run (vx_runSW F hM cw ⟨fun a U fr mk q => ⟨q.1, q.2.blind⟩, fun U hU hW => ⟨rfl, mb_of rfl hP hD hK hG hS hA isC hC hnC hU hW, NC.moved hW.alike hN⟩⟩ rfl hn hsize hst (lv_room hW) hdg hf) rfl hP hD hS hA isC isR hC hR hnR hdis kk
theorem sc_ld (hx : p.tables.exec = Jvm.exec) (hb : c.code = cc) {zb L : Nat} {xs : Nat → Int32} (hX : va_X zb L xs s H0) (hbl : zb < H0.size) (hbA : ¬ A zb) (hS : va_S A H0 H locs) {i : Nat} (hi : i < L ∧ L ≤ 5632) (hdg : decode cc pc = .ok (.iaload, 1))
    (kk : W p l e R s m args below meth c H locs cells slots Q (F0 m (pc + 1) ls (.int (xs i) :: rest))) : W p l e R s m args below meth c H locs cells slots Q (F0 m pc ls (.int (nI i) :: .ref zb :: rest)) :=
  va_sld hx hb hX hbl hbA hS (vp_in_nI hi.1 (by omega)) hdg (by rw [nI_clamp (by omega)]; exact kk)
theorem lc_eq (hx : p.tables.exec = Jvm.exec) (hb : c.code = cc) {x y : Int64} (h : x = y) (hdg : decode cc pc = .ok (.lcmp, 1)) (kk : W p l e R s m args below meth c H locs cells slots Q (F0 m (pc + 1) ls (.int (nI 0) :: rest))) : W p l e R s m args below meth c H locs cells slots Q (F0 m pc ls (.long y :: .long x :: rest)) :=
  W.lcmp hx hb hdg (by subst h; rw [show lg_cmp x x = nI 0 from by simp [lg_cmp]; rfl]; exact kk)
theorem dc_eq (hx : p.tables.exec = Jvm.exec) (hb : c.code = cc) {x y : UInt64} {op : CmpOp} (h : FP.dcmp x y = some .eq) (hdg : decode cc pc = .ok (.dcmp op, 1)) (kk : W p l e R s m args below meth c H locs cells slots Q (F0 m (pc + 1) ls (.int (nI 0) :: rest))) : W p l e R s m args below meth c H locs cells slots Q (F0 m pc ls (.double y :: .double x :: rest)) :=
  lv_dcmp hx hb hdg (by rw [h]; exact kk)
theorem ld_o (hx : p.tables.exec = Jvm.exec) (hb : c.code = cc) (hK : va_K D cls (tys T) s) (hP : va_P D cls ws H) (q0 : Nat) {a : Nat} {f : Nat → Int64} (ha : ws[q0]? = some (a, .inl (T 3, 1, .inr (.inl f)))) (hdg : decode cc pc = .ok (.laload, 1)) (kk : W p l e R s m args below meth c H locs cells slots Q (F0 m (pc + 1) ls (.long (f 0) :: rest))) : W p l e R s m args below meth c H locs cells slots Q (F0 m pc ls (.int (nI 0) :: .ref a :: rest)) :=
  va_lald hx hb hK hP q0 3 ha rfl (vp_in_nI (by decide) (by decide)) hdg (by rw [nI_clamp (by decide)]; exact kk)
theorem ld_d (hx : p.tables.exec = Jvm.exec) (hb : c.code = cc) (hK : va_K D cls (tys T) s) (hP : va_P D cls ws H) (q0 : Nat) {a : Nat} {f : Nat → UInt64} (ha : ws[q0]? = some (a, .inl (T 4, 1, .inr (.inr (.inr (.inl f)))))) (hdg : decode cc pc = .ok (.daload, 1)) (kk : W p l e R s m args below meth c H locs cells slots Q (F0 m (pc + 1) ls (.double (f 0) :: rest))) : W p l e R s m args below meth c H locs cells slots Q (F0 m pc ls (.int (nI 0) :: .ref a :: rest)) :=
  va_dald hx hb hK hP q0 4 ha rfl (vp_in_nI (by decide) (by decide)) hdg (by rw [nI_clamp (by decide)]; exact kk)
end LAWV
theorem ap_l {w1 w2 : va_W} {n : Nat} (h : w1.length = n) : (List.range n).map (fun i => (w1 ++ w2)[i]?) = w1.map some := by
  subst h
  refine List.ext_getElem? (fun k => ?_)
  rw [List.getElem?_map, List.getElem?_map]
  by_cases hk : k < w1.length
  · rw [List.getElem?_range hk, Option.map_some, List.getElem?_append_left hk, List.getElem?_eq_getElem hk]; rfl
  · rw [List.getElem?_eq_none (by rw [List.length_range]; omega), List.getElem?_eq_none (by omega)]; rfl
theorem ap_r {w1 w2 : va_W} {n k : Nat} (h : w1.length = n) (h2 : w2.length = k) : ((List.range k).map (fun i => i + n)).map (fun i => (w1 ++ w2)[i]?) = w2.map some := by
  subst h; subst h2
  refine List.ext_getElem? (fun k => ?_)
  rw [List.getElem?_map, List.getElem?_map, List.getElem?_map]
  by_cases hk : k < w2.length
  · rw [List.getElem?_range hk, Option.map_some, Option.map_some, List.getElem?_append_right (by omega), Nat.add_sub_cancel, List.getElem?_eq_getElem hk]; rfl
  · rw [List.getElem?_eq_none (by rw [List.length_range]; omega), List.getElem?_eq_none (by omega)]; rfl
theorem MW_len (T : Nat → ClassId) (b : Nat → Nat) (v : MSt) : (MW T b v).length = 5 := rfl
set_option maxHeartbeats 4000000 in
theorem st_add (l : Launch) (D : va_G) (T : Nat → ClassId) (g : Nat → Nat) (a b : Nat → Nat) (hl9 : l.stackTraces = false) {p : Program} {e : Env} {s : State} {m : MethodId} {below : List Frame} {meth : Method} {c : Code} {H : Heap} {locs : List Loc} {cells slots : Nat} {Q : State → Prop} {ls : Array Slot} {zb L q : Nat} {xs : Nat → Int32}
    (hx : p.tables.exec = Jvm.exec) (hb : c.code = cL_law) (hml : c.maxLocals = 9) (hown : s.vm.findClass RL = some m.cls) (hts : ∀ w ∈ wsL_law, w.before #[Value.ref zb] s = true)
    (hX : va_X zb L xs s s.heap) (hbl : zb < s.heap.size) (hq : 11 * q + 10 < L) (hL : L ≤ 5632) (hK : va_K D cls (tys T) s) (hG : GX g (fun q => s.heap.size ≤ q) s s.heap) (hN : NC s)
    {u : LSt} {v : MSt} {Bw : Nat → Nat → Nat} (hu : LIu u Bw) (hv : MR v.2.2.2.1 v.2.2.1 u.2.1 Bw) (hP : va_P D cls (LW T a u ++ MW T b v) H) (hD : va_D (fun q => s.heap.size ≤ q) (LW T a u ++ MW T b v)) (hS : va_S (fun q => s.heap.size ≤ q) s.heap H locs) (hcs : cells + 5 ≤ 603072 ∧ slots + 1106 ≤ 7219306)
    (hl : lv_has ls 9 [(0, .ref zb), (1, .ref (a 0)), (2, .ref (b 0)), (3, .ref (a 23)), (4, .ref (a 24)), (5, .int (nI (11 * q)))])
    (kk : ∀ (u : LSt) (v : MSt) (Bw : Nat → Nat → Nat) (H : Heap) (locs : List Loc) (ls : Array Slot), LIu u Bw → MR v.2.2.2.1 v.2.2.1 u.2.1 Bw → va_P D cls (LW T a u ++ MW T b v) H → va_D (fun q => s.heap.size ≤ q) (LW T a u ++ MW T b v) → va_S (fun q => s.heap.size ≤ q) s.heap H locs → lv_has ls 9 [(0, .ref zb), (1, .ref (a 0)), (2, .ref (b 0)), (3, .ref (a 23)), (4, .ref (a 24)), (5, .int (nI (11 * q)))] → W p l e room_1 s m #[Value.ref zb] below meth c H locs (cells + 5) (slots + 1106) Q (F0 m 1670 ls [])) :
    W p l e room_1 s m #[Value.ref zb] below meth c H locs cells slots Q (F0 m 140 ls []) := by
  obtain ⟨F, N, B0, hd, tv, ml, cnt, k0, fb, o, oD⟩ := u
  obtain ⟨many, th, fb2, fl2, fm2, fk2⟩ := v
  have hu : LI F N fb k0 cnt Bw := hu
  have hv : MR fl2 fb2 N Bw := hv
  have hA : ∀ q : Nat, s.heap.size ≤ q → (fun q => s.heap.size ≤ q) q := fun q h => h
  have hbA : ¬ s.heap.size ≤ zb := Nat.not_le.mpr hbl
  obtain ⟨cc, r, N', B', hHC, hMC, hcc⟩ := ex_add l D T g a b hl9 hu hv (xs (11 * q + 1)) (xs (11 * q + 2))
  refine lv_aload_n hx hb dL_law_140 rfl (lv_at hl 1 rfl) ?_
  refine lv_aload_n hx hb dL_law_141 rfl (lv_at hl 0 rfl) ?_
  refine lv_iload hx hb dL_law_142 (lv_at hl 5 rfl) ?_
  refine lv_iconst (v := nI 1) hx hb dL_law_144 (by decide +kernel) ?_
  refine ln_add hx hb dL_law_145 ?_
  refine sc_ld hx hb hX hbl hbA hS ⟨by omega, hL⟩ dL_law_146 ?_
  refine lv_aload_n hx hb dL_law_147 rfl (lv_at hl 0 rfl) ?_
  refine lv_iload hx hb dL_law_148 (lv_at hl 5 rfl) ?_
  refine lv_iconst (v := nI 2) hx hb dL_law_150 (by decide +kernel) ?_
  refine ln_add hx hb dL_law_151 ?_
  refine sc_ld hx hb hX hbl hbA hS ⟨by omega, hL⟩ dL_law_152 ?_
  refine lv_aload_n hx hb dL_law_153 rfl (lv_at hl 3 rfl) ?_
  refine mun_S (As := [.ref (a 0), .int (xs (11 * q + 1)), .int (xs (11 * q + 2)), .ref (a 23)]) (rest := []) (wc := LW T a (F, N, B0, hd, tv, ml, cnt, k0, fb, o, oD)) (wr := MW T b (many, th, fb2, fl2, fm2, fk2)) ⟨hx, hb, hml, hown, hts⟩ (hHC H.size) (vx_cwSW 4 hts gL_law_L_add rfl rfl rfl (by decide +kernel) ⟨Nat.le_of_ble_eq_true rfl, Nat.le_of_ble_eq_true rfl⟩) hN hP hD hK hG hS hA (List.range 25) ((List.range 5).map (fun i => i + 25)) (ap_l (LW_len T a _)) (by decide) (ap_r (LW_len T a _) (MW_len T b _)) (by decide) (by decide) hcs rfl hl.1 (Nat.le_of_ble_eq_true rfl) dL_law_154 rfl (fun u1 H locs hq1 hP hD hS => ?_)
  obtain ⟨hu1, hn1, ho1⟩ := hq1
  refine lv_istore (lv' := [(6, .int (nI cc)), (0, .ref zb), (1, .ref (a 0)), (2, .ref (b 0)), (3, .ref (a 23)), (4, .ref (a 24)), (5, .int (nI (11 * q)))]) hx hb dL_law_157 hl (by decide) rfl (fun ls hl => ?_)
  refine lv_aload_n hx hb dL_law_159 rfl (lv_at hl 3 rfl) ?_
  refine lv_aload_n hx hb dL_law_160 rfl (lv_at hl 1 rfl) ?_
  refine lv_iload hx hb dL_law_161 (lv_at hl 6 rfl) ?_
  refine lv_iconst (v := nI 1) hx hb dL_law_163 (by decide +kernel) ?_
  refine ln_add hx hb dL_law_164 ?_
  refine sc_ld hx hb hX hbl hbA hS ⟨by omega, hL⟩ dL_law_165 ?_
  refine lv_aload_n hx hb dL_law_166 rfl (lv_at hl 1 rfl) ?_
  refine lv_iload hx hb dL_law_167 (lv_at hl 6 rfl) ?_
  refine lv_iconst (v := nI 2) hx hb dL_law_169 (by decide +kernel) ?_
  refine ln_add hx hb dL_law_170 ?_
  refine sc_ld hx hb hX hbl hbA hS ⟨by omega, hL⟩ dL_law_171 ?_
  refine mu_V (As := [.int (xs (11 * q + 1)), .int (xs (11 * q + 2))]) (rest := []) (wc := MW T b (many, th, fb2, fl2, fm2, fk2)) (wr := LW T a u1) ⟨hx, hb, hml, hown, hts⟩ (hMC H.size) (cwV 2 hts gL_law_X6_add rfl rfl rfl (by decide +kernel) ⟨Nat.le_of_ble_eq_true rfl, Nat.le_of_ble_eq_true rfl⟩) (va_recv hK hP (ci := 3) (q0 := 0) rfl rfl) hP hD hK hG hS hA (List.range 5) ((List.range 25).map (fun i => i + 5)) (ap_l (MW_len T b _)) (by decide) (ap_r (MW_len T b _) (LW_len T a _)) (by decide) (by decide) hcs rfl hl.1 (Nat.le_of_ble_eq_true rfl) dL_law_172 rfl (fun v1 H locs hq2 hP hD hS => ?_)
  refine lv_istore (lv' := [(7, .int r), (6, .int (nI cc)), (0, .ref zb), (1, .ref (a 0)), (2, .ref (b 0)), (3, .ref (a 23)), (4, .ref (a 24)), (5, .int (nI (11 * q)))]) hx hb dL_law_175 hl (by decide) rfl (fun ls hl => ?_)
  refine lv_aload_n hx hb dL_law_177 rfl (lv_at hl 4 rfl) ?_
  refine ro_V (As := []) (rest := []) (wc := [(b 0, .inr (3, [.ref (b 1), .ref (b 2), .ref (b 3), .int (nI v1.1), .int v1.2.1, .ref (b 4)]))]) (r := .int v1.2.1) ⟨hx, hb, hml, hown, hts⟩ (c_X6_thrown l D T g (b 0) (b 1) (b 2) (b 3) (b 4) v1.1 v1.2.1) (cwV 0 hts gL_law_X6_thrown rfl rfl rfl (by decide +kernel) ⟨Nat.le_of_ble_eq_true rfl, Nat.le_of_ble_eq_true rfl⟩) (va_recv hK hP (ci := 3) (q0 := 25) rfl rfl) hP hK hG hS [25] rfl hcs rfl hl.1 (Nat.le_of_ble_eq_true rfl) dL_law_178 rfl ?_
  refine lv_iload hx hb dL_law_181 (lv_at hl 1 rfl) ?_
  refine lv_icmp_eq (tgt := 188) hx hb dL_law_183 (by decide) (fun _ => ?_) (fun z => absurd hq2.1 z)
  refine lv_iload hx hb dL_law_188 (lv_at hl 1 rfl) ?_
  refine ln_if_ne (tgt := 205) hx hb (by omega) dL_law_190 (by decide) (fun hz => ?_) (fun hz => ?_)
  · refine lv_goto (tgt := 1670) hx hb dL_law_205 (by decide) ?_
    exact kk u1 v1 B' H locs ls hu1 (MR_N hq2.2 hn1 (fun _ _ => rfl)) hP hD hS (lv_sub hl [2, 3, 4, 5, 6, 7] rfl)
  · refine lv_aload_n hx hb dL_law_193 rfl (lv_at hl 5 rfl) ?_
    refine lv_iconst (v := nI 0) hx hb dL_law_194 (by decide +kernel) ?_
    refine ld_o (f := uO u1) hx hb hK hP 23 rfl dL_law_195 ?_
    refine lv_iload hx hb dL_law_196 (lv_at hl 0 rfl) ?_
    refine lv_i2l (v := r.toInt64) hx hb dL_law_198 rfl ?_
    refine lc_eq hx hb (ho1 hz) dL_law_199 ?_
    refine ln_if_eq_t (tgt := 205) hx hb (by decide) rfl dL_law_200 (by decide) ?_
    refine lv_goto (tgt := 1670) hx hb dL_law_205 (by decide) ?_
    exact kk u1 v1 B' H locs ls hu1 (MR_N hq2.2 hn1 (fun _ _ => rfl)) hP hD hS (lv_sub hl [2, 3, 4, 5, 6, 7] rfl)
