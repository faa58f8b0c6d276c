section BE
variable {p : Program} {l : Launch} {e : Env} {R : Room} {s : State} {m : MethodId} {args : Array Value} {below : List Frame} {meth : Method} {c : Code} {H : Heap} {locs : List Loc} {cells slots : Nat} {Q : State → Prop}
variable {cc bytes : ByteArray} {pc maxL nL n index : Nat} {ls : Array Slot} {rest : List Value} {ret : Option FieldType}
variable {D : va_G} {T : Nat → ClassId} {g : Nat → Nat} {A : Nat → Prop} {ws wc : va_W} {H0 : Heap} {y : MethodName} {wy Ts : List Cond} {rm : Room} {own C : String} {b : Addr} {As : List Value} {r : Value}

theorem mu_I {S : Type} {res : S → Option Value} {post : S → Prop} {w1 : S → va_W} {mc ms : Nat} (F : CallFix p m c cc nL s args Ts own) (hM : MU l y wy rm D T g (.ref b :: As) wc H.size res post w1 mc ms) (cw : CallB R s args own index y bytes maxL none wy rm mc ms n ∧ y.name = "<init>" ∧ (Cond.instanceMethod y).before args s = true)
    (hP : va_P D cls ws H) (hD : va_D A ws) (hK : va_K D cls (tys T) s) (hG : GX g A s s.heap) (hS : va_S A s.heap H locs) (hA : ∀ q, s.heap.size ≤ q → A q) (isC isR : List Nat) {wr : va_W} (hC : isC.map (fun i => ws[i]?) = wc.map some) (hnC : va_nd isC = true) (hR : isR.map (fun i => ws[i]?) = wr.map some) (hnR : va_nd isR = true) (hdis : ∀ i ∈ isR, i ∉ isC) (hf : cells + mc ≤ R.cells ∧ slots + ms ≤ R.slots)
    (hn : As.length = n) (hsize : ls.size = nL) (hW : (rest.map fun v => v.category).sum ≤ 8) (hdg : decode cc pc = .ok (.invokespecial index, 3)) {st : List Value} (hst : st = As.reverse ++ .ref b :: rest)
    (kk : ∀ (u : S) (H1 : Heap) (locs1 : List Loc), post u → va_P D cls (wr ++ w1 u) H1 → va_D A (wr ++ w1 u) → va_S A s.heap H1 locs1 → W p l e R s m args below meth c H1 locs1 (cells + mc) (slots + ms) Q (F0 m (pc + 3) ls ((res u).toList ++ rest))) : W p l e R s m args below meth c H locs cells slots Q (F0 m pc ls st) :=
  mu_run (va_runI F hM cw ⟨fun a U fr mk q => ⟨q.1, q.2.blind⟩, fun U hU hW => ⟨rfl, mb_of rfl hP hD hK hG hS hA isC hC hnC hU hW⟩⟩ rfl hn hsize hst (lv_room hW) hdg hf) rfl hP hD hS hA isC isR hC hR hnR hdis kk
theorem mu_IN {host : String} {S : Type} {res : S → Option Value} {post : S → Prop} {w1 : S → va_W} {mc ms : Nat} (F : CallFix p m c cc nL s args Ts own) (hM : MU l y wy rm D T g (.ref b :: As) wc H.size res post w1 mc ms) (cw : va_CN R s args own index y host bytes maxL none wy rm mc ms n ∧ y.name = "<init>" ∧ (Cond.instanceMethod y).before args s = true)
    (hP : va_P D cls ws H) (hD : va_D A ws) (hK : va_K D cls (tys T) s) (hG : GX g A s s.heap) (hS : va_S A s.heap H locs) (hA : ∀ q, s.heap.size ≤ q → A q) (isC isR : List Nat) {wr : va_W} (hC : isC.map (fun i => ws[i]?) = wc.map some) (hnC : va_nd isC = true) (hR : isR.map (fun i => ws[i]?) = wr.map some) (hnR : va_nd isR = true) (hdis : ∀ i ∈ isR, i ∉ isC) (hf : cells + mc ≤ R.cells ∧ slots + ms ≤ R.slots)
    (hn : As.length = n) (hsize : ls.size = nL) (hW : (rest.map fun v => v.category).sum ≤ 8) (hdg : decode cc pc = .ok (.invokespecial index, 3)) {st : List Value} (hst : st = As.reverse ++ .ref b :: rest)
    (kk : ∀ (u : S) (H1 : Heap) (locs1 : List Loc), post u → va_P D cls (wr ++ w1 u) H1 → va_D A (wr ++ w1 u) → va_S A s.heap H1 locs1 → W p l e R s m args below meth c H1 locs1 (cells + mc) (slots + ms) Q (F0 m (pc + 3) ls ((res u).toList ++ rest))) : W p l e R s m args below meth c H locs cells slots Q (F0 m pc ls st) :=
  mu_run (va_runIN F hM cw ⟨fun a U fr mk q => ⟨q.1, q.2.blind⟩, fun U hU hW => ⟨rfl, mb_of rfl hP hD hK hG hS hA isC hC hnC hU hW⟩⟩ rfl hn hsize hst (lv_room hW) hdg hf) rfl hP hD hS hA isC isR hC hR hnR hdis kk
theorem tx_run {S : Type} {post : S → Prop} {w1 : S → va_W} {sz mc ms m9 s9 : Nat} {E : String} {Qc : Array Value → State → Outcome → State → Prop} {XC : String → State → State → Prop} {st0 : List Value}
    (hr : vx_Run p l e R s m args below meth c H locs cells slots mc ms (F0 m pc ls st0) rest (fun _ _ _ => False) (XM D T (va_A wc sz) E post w1) (va_A wc sz)) (hsz : sz = H.size)
    (hP : va_P D cls ws H) (hD : va_D A ws) (hS : va_S A s.heap H locs) (hA : ∀ q, s.heap.size ≤ q → A q) (isC isR : List Nat) {wr : va_W} (hC : isC.map (fun i => ws[i]?) = wc.map some) (hR : isR.map (fun i => ws[i]?) = wr.map some) (hn : va_nd isR = true) (hdis : ∀ i ∈ isR, i ∉ isC)
    (ht : ∀ x ∈ c.exceptionTable.toList, False) (hlocks : meth.locks = false)
    (hx : ∀ (u : S) (t : State), s.vm.Alike t.vm → post u → va_P D cls (wr ++ w1 u) t.heap → va_D A (wr ++ w1 u) → va_F A s t → XC E s t) (hc : cells + mc ≤ m9) (hs : slots + ms ≤ s9) :
    W p l e R s m args below meth c H locs cells slots (vx_MQ below Qc XC args s m9 s9 A) (F0 m pc ls st0) := by
  subst hsz
  have hF := va_free (wc := wc) hD hS hA isC hC
  intro T9 hT X
  rcases hr T9 hT X with ⟨v, st₀, t, T', L, h0, X', hL, e1, e2, hfalse, st⟩ | ⟨q, st₀, t, T', L, E9, ce, h0, X', hL, e1, e2, ⟨hE, ⟨u, hp, hb1, hb2, hb3⟩, hz, hk⟩, hce, hcv, hcl, st⟩
  · exact hfalse.elim
  · subst hE
    rw [h0] at hz hk
    rw [← e1] at hz hk hb1
    obtain ⟨hP2, hD2⟩ := va_join (wr := wr) (w1 := w1 u) hP hD isC isR hC hR hn hdis hk hF hb1 hb3
    have hS2 : va_S A s.heap T'.heap (locs ++ L) := ⟨Nat.le_trans hS.1 hz, fun q h1 h2 => by rw [hk q (Nat.lt_of_lt_of_le h1 hS.1) (fun z => h2 (hF q z))]; exact hS.2.1 q h1 h2, fun q hq => by
      rcases List.mem_append.mp hq with h | h
      · exact hS.2.2 q h
      · exact hF _ (hL q h)⟩
    obtain ⟨t2, a1, b1⟩ := vx_out (Qc := Qc) (XC := XC) (rest := rest) (ls := ls) (pc := pc) (fun x h => (ht x h).elim) hlocks (by rw [e1]; exact hce) hcv hcl (fun t ht hal => hx u t hal hp (by rw [ht]; exact hP2) hD2 (hS2.F ht)) hS2.2.2 hc hs T' rfl X'
    exact ⟨t2, st.trans a1, b1⟩
theorem tx_V {S : Type} {post : S → Prop} {w1 : S → va_W} {mc ms m9 s9 : Nat} {E : String} {Qc : Array Value → State → Outcome → State → Prop} {XC : String → State → State → Prop} (F : CallFix p m c cc nL s args Ts own) (hM : TX l y wy rm D T g (.ref b :: As) wc H.size E post w1 mc ms) (cw : CallW R s args own C index y bytes maxL ret wy rm mc ms n) (hrecv : ∃ cell : Cell, H[b]? = some cell ∧ cell.vm.isStatics = false ∧ s.vm.findClass C = some cell.cls)
    (hP : va_P D cls ws H) (hD : va_D A ws) (hK : va_K D cls (tys T) s) (hG : GX g A s s.heap) (hS : va_S A s.heap H locs) (hA : ∀ q, s.heap.size ≤ q → A q) (isC isR : List Nat) {wr : va_W} (hC : isC.map (fun i => ws[i]?) = wc.map some) (hnC : va_nd isC = true) (hR : isR.map (fun i => ws[i]?) = wr.map some) (hnR : va_nd isR = true) (hdis : ∀ i ∈ isR, i ∉ isC) (hf : cells + mc ≤ R.cells ∧ slots + ms ≤ R.slots)
    (hn : As.length = n) (hsize : ls.size = nL) (hW : (rest.map fun v => v.category).sum ≤ 8) (hdg : decode cc pc = .ok (.invokevirtual index, 3)) {st : List Value} (hst : st = As.reverse ++ .ref b :: rest)
    (ht : ∀ x ∈ c.exceptionTable.toList, False) (hlocks : meth.locks = false) (hx : ∀ (u : S) (t : State), s.vm.Alike t.vm → post u → va_P D cls (wr ++ w1 u) t.heap → va_D A (wr ++ w1 u) → va_F A s t → XC E s t) (hc : cells + mc ≤ m9) (hs : slots + ms ≤ s9) : W p l e R s m args below meth c H locs cells slots (vx_MQ below Qc XC args s m9 s9 A) (F0 m pc ls st) :=
  tx_run (vx_runV F hM cw ⟨fun a U fr mk q => ⟨q.1, q.2.blind⟩, hrecv, fun U hU hW => ⟨rfl, mb_of rfl hP hD hK hG hS hA isC hC hnC hU hW⟩⟩ rfl hn hsize hst (lv_room hW) hdg hf) rfl hP hD hS hA isC isR hC hR hnR hdis ht hlocks hx hc hs
theorem tx_S {S : Type} {post : S → Prop} {w1 : S → va_W} {mc ms m9 s9 : Nat} {E : String} {Qc : Array Value → State → Outcome → State → Prop} {XC : String → State → State → Prop} (F : CallFix p m c cc nL s args Ts own) (hM : TX l y wy rm D T g As wc H.size E post w1 mc ms) (cw : CallB R s args own index y bytes maxL ret wy rm mc ms n ∧ (Cond.static y).before args s = true)
    (hP : va_P D cls ws H) (hD : va_D A ws) (hK : va_K D cls (tys T) s) (hG : GX g A s s.heap) (hS : va_S A s.heap H locs) (hA : ∀ q, s.heap.size ≤ q → A q) (isC isR : List Nat) {wr : va_W} (hC : isC.map (fun i => ws[i]?) = wc.map some) (hnC : va_nd isC = true) (hR : isR.map (fun i => ws[i]?) = wr.map some) (hnR : va_nd isR = true) (hdis : ∀ i ∈ isR, i ∉ isC) (hf : cells + mc ≤ R.cells ∧ slots + ms ≤ R.slots)
    (hn : As.length = n) (hsize : ls.size = nL) (hW : (rest.map fun v => v.category).sum ≤ 8) (hdg : decode cc pc = .ok (.invokestatic index, 3)) {st : List Value} (hst : st = As.reverse ++ rest)
    (ht : ∀ x ∈ c.exceptionTable.toList, False) (hlocks : meth.locks = false) (hx : ∀ (u : S) (t : State), s.vm.Alike t.vm → post u → va_P D cls (wr ++ w1 u) t.heap → va_D A (wr ++ w1 u) → va_F A s t → XC E s t) (hc : cells + mc ≤ m9) (hs : slots + ms ≤ s9) : W p l e R s m args below meth c H locs cells slots (vx_MQ below Qc XC args s m9 s9 A) (F0 m pc ls st) :=
  tx_run (vx_runS F hM cw ⟨fun a U fr mk q => ⟨q.1, q.2.blind⟩, fun U hU hW => ⟨rfl, mb_of rfl hP hD hK hG hS hA isC hC hnC hU hW⟩⟩ rfl hn hsize hst (lv_room hW) hdg hf) rfl hP hD hS hA isC isR hC hR hnR hdis ht hlocks hx hc hs
theorem xE_ok : ∀ q ∈ xE, Bundle.fit q.2.2 = true ∧ ∀ w ∈ Cond.classLink RX5 q.1 q.2.2 :: Cond.initialized q.2.2 :: vx_atS RX5 q.2.1 q.2.2 xN, vx_ot w = true := by
  have h : xE.all (fun q => Bundle.fit q.2.2 && (Cond.classLink RX5 q.1 q.2.2 :: Cond.initialized q.2.2 :: vx_atS RX5 q.2.1 q.2.2 xN).all vx_ot) = true := by decide +kernel
  intro q hq
  have := List.all_eq_true.mp h q hq
  rw [Bool.and_eq_true] at this
  exact ⟨this.1, fun w hw => List.all_eq_true.mp this.2 w hw⟩
theorem xN_ok : ∀ n ∈ xN, Bundle.fit n = true := by
  have h : xN.all Bundle.fit = true := by decide +kernel
  exact fun n hn => List.all_eq_true.mp h n hn
theorem tx_new {t : State} (hP : va_P D cls ws H) (hD : va_D A ws) (hK : va_K D cls (tys T) s) (hS : va_S A s.heap H locs) (hal : s.vm.Alike t.vm) (hz : H.size ≤ t.heap.size) (hk : ∀ q : Nat, q < H.size → t.heap[q]? = H[q]?) : MA D T A ws t ∧ va_F A s t :=
  ⟨⟨hP.kept (fun k x hx => hk x.1 ((hP k x hx).lt)), va_K.moved hal hK, hD⟩, ⟨Nat.le_trans hS.1 hz, fun q h1 h2 => (hk q (Nat.lt_of_lt_of_le h1 hS.1)).trans (hS.2.1 q h1 h2)⟩⟩
theorem tx_throw {text : String} {is ik ic mc ms : Nat} {E : String} {Qc : Array Value → State → Outcome → State → Prop} {XC : String → State → State → Prop} (hl9 : l.stackTraces = false) (hx : p.tables.exec = Jvm.exec) (hb : c.code = cc) (hown : s.vm.findClass RX5 = some m.cls) (hts : ∀ w ∈ Ts, w.before args s = true) (hq : (ik, ic, E) ∈ xE) (hk : Cond.classLink RX5 ik E ∈ Ts) (hini : Cond.initialized E ∈ Ts)
    (hat : ∀ w ∈ (vx_atS RX5 ic E xN).filter goodWord, w ∈ Ts) (hstr : (is, text) ∈ strK) (hP : va_P D cls ws H) (hD : va_D A ws) (hK : va_K D cls (tys T) s) (hG : GX g A s s.heap) (hS : va_S A s.heap H locs) (hsize : ls.size = c.maxLocals)
    (d0 : decode cc pc = .ok (.new ik, 3)) (d3 : decode cc (pc + 3) = .ok (.dup, 1)) (d4 : decode cc (pc + 4) = .ok (.ldc is, 2)) (d6 : decode cc (pc + 6) = .ok (.invokespecial ic, 3)) (d9 : decode cc (pc + 9) = .ok (.athrow, 1))
    (ht : ∀ x ∈ c.exceptionTable.toList, False) (hRf : 5 < R.frames) (hRl : (rest.map fun v => v.category).sum + 82 ≤ R.locals) (hRc : cells + 1 ≤ R.cells) (hRs : slots + 6 ≤ R.slots) (hlocks : meth.locks = false)
    (hxx : ∀ t : State, MA D T A ws t → va_F A s t → XC E s t) (hc : cells + 1 ≤ mc) (hs : slots + 6 ≤ ms) : W p l e R s m args below meth c H locs cells slots (vx_MQ below Qc XC args s mc ms A) (F0 m pc ls rest) :=
  vx_throwS hx hb hl9 (names := xN) (sa := g is) hown (xE_ok _ hq).1 xN_ok (hts _ hk) (hts _ hini) (hG.2.2.2.2.2.2.2.2.2.1 (is, text) hstr)
    (vx_hat (fun w hw => hts w (hat w hw)) (fun w hw => List.mem_flatten.mpr ⟨_, List.mem_map.mpr ⟨_, hq, rfl⟩, hw⟩) (fun w hw => va_Nw.use (xw_ok w hw).2 (hG.2.2.2.2.2.2.2.2.2.2.2 w hw)))
    (xE_ok _ hq).2 hG.2.2.2.2.2.1 hG.2.2.2.2.2.2.1 hS hsize d0 d3 d4 d6 d9 (fun x h => (ht x h).elim) hRf hRl hRc hRs hlocks
    (fun t hal hz hk => hxx t (tx_new hP hD hK hS hal hz hk).1 (tx_new hP hD hK hS hal hz hk).2) hS.2.2 hc hs
theorem newa_id2 {cA : ClassId} (h : va_K D cls (tys T ++ [(cA, .object RX2)]) s) : cA = T 2 := by
  obtain ⟨-, k1, c1, -, -, -, f1⟩ := h.2 5 _ rfl
  obtain ⟨-, k2, c2, -, -, -, f2⟩ := h.2 2 _ rfl
  exact Option.some.inj (f1.symm.trans f2)
theorem arr_ext {cA : ClassId} {N : Nat} {f g : Nat → Value} (h : ∀ j, j < N → f j = g j) : arrV cA N f = arrV cA N g := by
  unfold arrV
  congr 1
  congr 1
  funext j
  exact h j.1 j.2
theorem P_ext {a N : Nat} {cA : ClassId} {f f' : Nat → Option Nat} (h : ∀ j, j < N → f j = f' j) (hP : va_P D cls ((a, .inl (cA, N, .inr (.inr (.inr (.inr f))))) :: ws) H) : va_P D cls ((a, .inl (cA, N, .inr (.inr (.inr (.inr f'))))) :: ws) H := by
  intro k q hk
  rcases k with - | k
  · cases hk
    have h1 : H[a]? = some (vp_cell cA (N, .inr (.inr (.inr (.inr f))))) := hP 0 _ rfl
    show H[a]? = some (vp_cell cA (N, .inr (.inr (.inr (.inr f')))))
    rw [h1, vp_cell_q, vp_cell_q, arr_ext (fun j hj => congrArg va_rf (h j hj))]
  · exact hP (k + 1) q hk
theorem D_ext {a : Nat} {x x' : va_E} (hD : va_D A ((a, x) :: ws)) : va_D A ((a, x') :: ws) := hD.set (p := 0) (e0 := x) (e := x') rfl
end BE
