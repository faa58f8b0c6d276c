/-! a contract in a larger world; throws that are caught -/
section LF
variable {l : Launch} {y : MethodName} {wy : List Cond} {rm : Room} {D : va_G} {T : Nat → ClassId} {g : Nat → Nat} {av : List Value}
theorem GX.thin {A B : Nat → Prop} {U : State} {H : Heap} (h : GX g A U H) (hAB : ∀ q, B q → A q) : GX g B U H := by
  obtain ⟨h1, h2, h3, h4, h5, h6, h7, h8, h9, h10, h11, h12⟩ := h
  exact ⟨h1.narrow hAB, h2.narrow hAB, h3.narrow hAB, h4.narrow hAB, h5.narrow hAB, h6.narrow hAB, h7.narrow hAB, h8, h9, h10, h11, h12⟩
def va_Yc (C T : String) (U : State) : Prop := ∃ c t : ClassId, U.vm.findClass C = some c ∧ U.vm.findClass T = some t ∧ U.vm.assignable c t = true
theorem va_Yc.moved {C T : String} {u U : State} (hvm : u.vm.Alike U.vm) (h : va_Yc C T u) : va_Yc C T U := by
  obtain ⟨c, t, h1, h2, h3⟩ := h
  exact ⟨c, t, by rw [hvm.findClass]; exact h1, by rw [hvm.findClass]; exact h2, by rw [hvm.assignable]; exact h3⟩
theorem va_Yc.word {args : Array Value} {s : State} {C T : String} (h : va_Yc C T s) : (Cond.castable C T).before args s = true := by
  obtain ⟨c, t, h1, h2, h3⟩ := h
  simp [Cond.before, Cond.holds, Cond.value, h1, h2, h3]
def nIO : String := "java/lang/IndexOutOfBoundsException"
def nIA : String := "java/lang/IllegalArgumentException"
def nIS : String := "java/lang/IllegalStateException"
def nUO : String := "java/lang/UnsupportedOperationException"
def nAE : String := "java/lang/ArithmeticException"
def ncL : List (String × String) := [("java/lang/IllegalArgumentException", "java/lang/IndexOutOfBoundsException"), ("java/lang/IllegalStateException", "java/lang/IndexOutOfBoundsException"), ("java/lang/IllegalStateException", "java/lang/IllegalArgumentException"), ("java/lang/UnsupportedOperationException", "java/lang/IndexOutOfBoundsException"), ("java/lang/UnsupportedOperationException", "java/lang/IllegalArgumentException"), ("java/lang/IllegalStateException", "java/lang/UnsupportedOperationException"), ("java/lang/ArithmeticException", "java/lang/IndexOutOfBoundsException"), ("java/lang/ArithmeticException", "java/lang/IllegalArgumentException")]
def ycL : List String := ["java/lang/IndexOutOfBoundsException", "java/lang/IllegalArgumentException", "java/lang/IllegalStateException", "java/lang/UnsupportedOperationException", "java/lang/ArithmeticException"]
/-- which throws a row of a table catches -/
def NC (U : State) : Prop := (∀ q ∈ ncL, va_Nc q.1 q.2 U) ∧ ∀ q ∈ ycL, va_Yc q q U
theorem NC.moved {u U : State} (hvm : u.vm.Alike U.vm) (h : NC u) : NC U := ⟨fun q hq => (h.1 q hq).moved hvm, fun q hq => (h.2 q hq).moved hvm⟩
def MN (D : va_G) (T : Nat → ClassId) (g : Nat → Nat) (ws : va_W) (sz : Nat) (U : State) : Prop := MB D T g ws sz U ∧ NC U
theorem MN.blind {ws : va_W} {sz : Nat} {U : State} {fr : JFrame} {mk : MethodId} {a : Array Value} (h : MN D T g ws sz U) : MN D T g ws sz (U.calling fr mk a) := ⟨h.1.blind, NC.moved (u := U) (U := U.calling fr mk a) (Vm.Alike.refl U.vm) h.2⟩
/-- a method that writes, and catches -/
def MUN (l : Launch) (y : MethodName) (wy : List Cond) (rm : Room) (D : va_G) (T : Nat → ClassId) (g : Nat → Nat) (av : List Value) (ws : va_W) (sz : Nat) {S : Type} (res : S → Option Value) (post : S → Prop) (w1 : S → va_W) (mc ms : Nat) : Prop :=
  Met l y wy rm (va_Pc av (MN D T g ws sz)) (QM D T (va_A ws sz) res post w1) mc ms (va_A ws sz)
theorem mapS {α : Type} {f : Nat → Option α} : ∀ {is : List Nat}, (∀ i ∈ is, ∃ x, f i = some x) → is.map f = (is.filterMap f).map some
  | [], _ => rfl
  | i :: is, h => by
    obtain ⟨x, hx⟩ := h i List.mem_cons_self
    have ih := mapS (f := f) (is := is) (fun j hj => h j (List.mem_cons_of_mem _ hj))
    rw [List.map_cons, ih, hx, List.filterMap_cons, hx]; rfl
theorem ndF {p : Nat → Bool} : ∀ {is : List Nat}, is.Nodup → (is.filter p).Nodup := fun h => h.filter p
theorem ndA {is : List Nat} (h : is.Nodup) : va_nd is = true := by
  induction is with
  | nil => rfl
  | cons a l ih =>
    have h := List.nodup_cons.mp h
    simp only [va_nd, Bool.and_eq_true]
    refine ⟨?_, ih h.2⟩
    simpa using h.1
section UP
variable {wc ws : va_W} {sz : Nat} {S S' : Type} {res : S → Option Value} {post : S → Prop} {w1 : S → va_W} {res' : S' → Option Value} {post' : S' → Prop} {w1' : S' → va_W} {mc ms : Nat}
/-- behind it: the callee's cells are the new ones, the rest stays -/
theorem up_end {isC : List Nat} (hnd : va_nd isC = true) (hC : isC.map (fun k => ws[k]?) = wc.map some) {st t : State} (hz : st.heap.size = sz) (hP : va_P D cls ws st.heap) (hD : va_D (fun _ => True) ws) {w0 : va_W} {wn : va_W}
    (hb1 : va_P D cls w0 t.heap) (hb3 : va_D (va_A wc sz) w0) (hF : va_F (va_A wc sz) st t) (hlen : wn.length = ws.length) (hm : isC.map (fun k => wn[k]?) = w0.map some) (ho : ∀ k, k < ws.length → k ∉ isC → wn[k]? = ws[k]?) :
    va_P D cls wn t.heap ∧ va_D (va_A ws sz) wn ∧ va_F (va_A ws sz) st t := by
  subst hz
  have hsub : ∀ q, va_A wc st.heap.size q → va_A ws st.heap.size q := va_free (hD.self) va_S.rf (fun q h => Or.inr h) isC hC
  have hRd : ((List.range ws.length).filter (fun k => !isC.contains k)).Nodup := ndF List.nodup_range
  have hR := mapS (f := fun k => ws[k]?) (is := (List.range ws.length).filter (fun k => !isC.contains k)) (fun i hi => by
    have h1 := List.mem_range.mp (List.mem_filter.mp hi).1
    exact ⟨ws[i], List.getElem?_eq_getElem h1⟩)
  have hdis : ∀ i ∈ (List.range ws.length).filter (fun k => !isC.contains k), i ∉ isC := fun i hi => by
    have h1 := (List.mem_filter.mp hi).2
    simpa using h1
  obtain ⟨hP2, hD2⟩ := va_join (w1 := w0) hP hD.self isC _ hC hR (ndA hRd) hdis hF.2 hsub hb1 hb3
  have hin : ∀ (k : Nat) (q : Nat × va_E), k ∈ isC → wn[k]? = some q → ∃ j : Nat, isC[j]? = some k ∧ w0[j]? = some q := by
    intro k q hk hq
    obtain ⟨j, hj⟩ := List.getElem?_of_mem hk
    have e : (isC.map (fun k => wn[k]?))[j]? = (w0.map some)[j]? := by rw [hm]
    rw [List.getElem?_map, hj, List.getElem?_map] at e
    cases e2 : w0[j]? with
    | none => rw [e2] at e; exact absurd e (fun z => nomatch z)
    | some x =>
      rw [e2] at e
      have e : some (wn[k]?) = some (some x) := e
      rw [hq] at e
      cases e
      exact ⟨j, hj, e2⟩
  have hout : ∀ (k : Nat) (q : Nat × va_E), k ∉ isC → wn[k]? = some q → ws[k]? = some q ∧ ∃ x : Nat, (((List.range ws.length).filter (fun k => !isC.contains k)).filterMap (fun k => ws[k]?))[x]? = some q := by
    intro k q hk hq
    have hl : k < ws.length := by rw [← hlen]; exact (List.getElem?_eq_some_iff.mp hq).1
    have h1 : ws[k]? = some q := by rw [← ho k hl hk]; exact hq
    refine ⟨h1, List.getElem?_of_mem (List.mem_filterMap.mpr ⟨k, List.mem_filter.mpr ⟨List.mem_range.mpr hl, ?_⟩, h1⟩)⟩
    simpa using hk
  generalize hwr : ((List.range ws.length).filter (fun k => !isC.contains k)).filterMap (fun k => ws[k]?) = wr at hP2 hD2 hout
  have hwl : ∀ (x : Nat) (q : Nat × va_E), wr[x]? = some q → (wr ++ w0)[x]? = some q ∧ x < wr.length := fun x q hx => ⟨by rw [List.getElem?_append_left (List.getElem?_eq_some_iff.mp hx).1]; exact hx, (List.getElem?_eq_some_iff.mp hx).1⟩
  have hwj : ∀ (j : Nat) (q : Nat × va_E), w0[j]? = some q → (wr ++ w0)[wr.length + j]? = some q := fun j q hj => by rw [List.getElem?_append_right (Nat.le_add_right _ _), Nat.add_sub_cancel_left]; exact hj
  refine ⟨fun k q hq => ?_, ⟨fun i j p q hi hj hpq => ?_, fun k q hq => ?_⟩, hF.1, fun q h1 h2 => hF.2 q h1 (fun z => h2 (hsub q z))⟩
  · by_cases hk : k ∈ isC
    · obtain ⟨j, -, hj⟩ := hin k q hk hq
      exact hb1 j q hj
    · obtain ⟨-, x, hx⟩ := hout k q hk hq
      exact hP2 x q (hwl x q hx).1
  · by_cases hi2 : i ∈ isC
    · obtain ⟨a, ha, ha2⟩ := hin i p hi2 hi
      by_cases hj2 : j ∈ isC
      · obtain ⟨b, hb, hb2⟩ := hin j q hj2 hj
        have e := hb3.1 a b p q ha2 hb2 hpq
        subst e
        exact Option.some.inj (ha.symm.trans hb)
      · obtain ⟨-, x, hx⟩ := hout j q hj2 hj
        have e := hD2.1 _ _ p q (hwj a p ha2) (hwl x q hx).1 hpq
        have := (hwl x q hx).2
        omega
    · obtain ⟨hwi, x, hx⟩ := hout i p hi2 hi
      by_cases hj2 : j ∈ isC
      · obtain ⟨b, hb, hb2⟩ := hin j q hj2 hj
        have e := hD2.1 _ _ p q (hwl x p hx).1 (hwj b q hb2) hpq
        have := (hwl x p hx).2
        omega
      · obtain ⟨hwj2, -, -⟩ := hout j q hj2 hj
        exact hD.1 i j p q hwi hwj2 hpq
  · by_cases hk : k ∈ isC
    · obtain ⟨j, -, hj⟩ := hin k q hk hq
      exact hD2.2 _ q (hwj j q hj)
    · obtain ⟨-, x, hx⟩ := hout k q hk hq
      exact hD2.2 _ q (hwl x q hx).1
theorem up_sub {isC : List Nat} (hnd : va_nd isC = true) (hC : isC.map (fun k => ws[k]?) = wc.map some) {U : State} (h : MB D T g ws sz U) : MB D T g wc sz U := by
  obtain ⟨rfl, hP, hK, hD, hG⟩ := h
  have hC2 : isC.filterMap (fun i => ws[i]?) = wc := by
    have h := congrArg (List.filterMap id) hC
    rw [List.filterMap_map, List.filterMap_map] at h
    have h2 : List.filterMap (id ∘ some) wc = wc := by
      have : (id ∘ some : Nat × va_E → Option (Nat × va_E)) = some := rfl
      rw [this, List.filterMap_some]
    rw [h2] at h
    exact h
  exact ⟨rfl, hP.sub isC hC2, hK, hD.sub isC hnd hC, hG.thin (va_free (hD.self) va_S.rf (fun q h => Or.inr h) isC hC)⟩
theorem MU_up (h : MU l y wy rm D T g av wc sz res post w1 mc ms) (isC : List Nat) (hnd : va_nd isC = true) (hC : isC.map (fun k => ws[k]?) = wc.map some)
    (hu : ∀ u, post u → ∃ u', res' u' = res u ∧ post' u' ∧ (w1' u').length = ws.length ∧ isC.map (fun k => (w1' u')[k]?) = (w1 u).map some ∧ ∀ k, k < ws.length → k ∉ isC → (w1' u')[k]? = ws[k]?) :
    MU l y wy rm D T g av ws sz res' post' w1' mc ms := by
  unfold MU Met at h ⊢
  refine MetFree.mono h ?_ (fun _ _ _ _ _ z => z) ?_
  · rintro a U ⟨rfl, hB⟩
    exact ⟨rfl, up_sub hnd hC hB⟩
  · rintro a st o t ⟨rfl, hz, hP, hK, hD, hG⟩ ⟨⟨⟨u, ho, hp, hb1, hb2, hb3⟩, hF⟩, L, hL1, hL2⟩
    obtain ⟨u', e1, e2, e3, e4, e5⟩ := hu u hp
    obtain ⟨r1, r2, r3⟩ := up_end hnd hC hz hP hD hb1 hb3 hF e3 e4 e5
    exact ⟨⟨⟨u', by rw [ho, e1], e2, r1, hb2, r2⟩, r3⟩, L, hL1, fun q hq => by
      subst hz
      exact va_free (hD.self) va_S.rf (fun q h => Or.inr h) isC hC _ (hL2 q hq)⟩
theorem MUN_up (h : MUN l y wy rm D T g av wc sz res post w1 mc ms) (isC : List Nat) (hnd : va_nd isC = true) (hC : isC.map (fun k => ws[k]?) = wc.map some)
    (hu : ∀ u, post u → ∃ u', res' u' = res u ∧ post' u' ∧ (w1' u').length = ws.length ∧ isC.map (fun k => (w1' u')[k]?) = (w1 u).map some ∧ ∀ k, k < ws.length → k ∉ isC → (w1' u')[k]? = ws[k]?) :
    MUN l y wy rm D T g av ws sz res' post' w1' mc ms := by
  unfold MUN Met at h ⊢
  refine MetFree.mono h ?_ (fun _ _ _ _ _ z => z) ?_
  · rintro a U ⟨rfl, hB, hN⟩
    exact ⟨rfl, up_sub hnd hC hB, hN⟩
  · rintro a st o t ⟨rfl, ⟨hz, hP, hK, hD, hG⟩, hN⟩ ⟨⟨⟨u, ho, hp, hb1, hb2, hb3⟩, hF⟩, L, hL1, hL2⟩
    obtain ⟨u', e1, e2, e3, e4, e5⟩ := hu u hp
    obtain ⟨r1, r2, r3⟩ := up_end hnd hC hz hP hD hb1 hb3 hF e3 e4 e5
    exact ⟨⟨⟨u', by rw [ho, e1], e2, r1, hb2, r2⟩, r3⟩, L, hL1, fun q hq => by
      subst hz
      exact va_free (hD.self) va_S.rf (fun q h => Or.inr h) isC hC _ (hL2 q hq)⟩
end UP
end LF
section TC
variable {p : Program} {l : Launch} {e : Env} {R : Room} {s : State} {m : MethodId} {args : Array Value} {below : List Frame} {meth : Method} {c : Code} {H : Heap} {locs : List Loc} {cells slots : Nat} {Q : State → Prop}
variable {cc bytes : ByteArray} {pc maxL nL n index : Nat} {ls : Array Slot} {rest : List Value} {ret : Option FieldType}
variable {D : va_G} {T : Nat → ClassId} {g : Nat → Nat} {A : Nat → Prop} {ws wc : va_W} {H0 : Heap} {y : MethodName} {wy Ts : List Cond} {rm : Room} {own C : String} {b : Addr} {As : List Value} {r : Value}
/-- a call that throws, and is caught here -/
theorem tc_run {S : Type} {post : S → Prop} {w1 : S → va_W} {sz mc ms hpc : Nat} {E : String} {st0 : List Value}
    (hr : vx_Run p l e R s m args below meth c H locs cells slots mc ms (F0 m pc ls st0) rest (fun _ _ _ => False) (XM D T (va_A wc sz) E post w1) (va_A wc sz)) (hsz : sz = H.size)
    (hP : va_P D cls ws H) (hD : va_D A ws) (hS : va_S A s.heap H locs) (hA : ∀ q, s.heap.size ≤ q → A q) (isC isR : List Nat) {wr : va_W} (hC : isC.map (fun i => ws[i]?) = wc.map some) (hR : isR.map (fun i => ws[i]?) = wr.map some) (hn : va_nd isR = true) (hdis : ∀ i ∈ isR, i ∉ isC)
    (hx : ∀ (H1 : Heap) (locs1 : List Loc) (q9 : Addr) (ce : Cell), H1[q9]? = some ce → ce.vm = .none → s.vm.findClass E = some ce.cls → W p l e R s m args below meth c H1 locs1 (cells + mc) (slots + ms) Q (F0 m hpc ls [.ref q9]) → vx_W p l e R s m args below meth c H1 locs1 (cells + mc) (slots + ms) Q (F0 m pc ls rest) q9)
    (kk : ∀ (u : S) (q9 : Addr) (H1 : Heap) (locs1 : List Loc), post u → va_P D cls (wr ++ w1 u) H1 → va_D A (wr ++ w1 u) → va_S A s.heap H1 locs1 → W p l e R s m args below meth c H1 locs1 (cells + mc) (slots + ms) Q (F0 m hpc ls [.ref q9])) :
    W p l e R s m args below meth c H locs cells slots Q (F0 m pc ls st0) := by
  subst hsz
  have hF := va_free (wc := wc) hD hS hA isC hC
  intro T9 hT X
  rcases hr T9 hT X with ⟨v, st₀, t, T', L, h0, X', hL, e1, e2, hfalse, st⟩ | ⟨q, st₀, t, T', L, E9, ce, h0, X', hL, e1, e2, ⟨hE, ⟨u, hp, hb1, hb2, hb3⟩, hz, hk⟩, hce, hcv, hcl, st⟩
  · exact hfalse.elim
  · subst hE
    rw [h0] at hz hk
    rw [← e1] at hz hk hb1
    obtain ⟨hP2, hD2⟩ := va_join (wr := wr) (w1 := w1 u) hP hD isC isR hC hR hn hdis hk hF hb1 hb3
    have hS2 : va_S A s.heap T'.heap (locs ++ L) := ⟨Nat.le_trans hS.1 hz, fun q h1 h2 => by rw [hk q (Nat.lt_of_lt_of_le h1 hS.1) (fun z => h2 (hF q z))]; exact hS.2.1 q h1 h2, fun q hq => by
      rcases List.mem_append.mp hq with h | h
      · exact hS.2.2 q h
      · exact hF _ (hL q h)⟩
    obtain ⟨t2, a1, b1⟩ := hx T'.heap (locs ++ L) q ce (by rw [e1]; exact hce) hcv hcl (kk u q T'.heap (locs ++ L) hp hP2 hD2 hS2) T' rfl X'
    exact ⟨t2, st.trans a1, b1⟩
theorem tc_V {S : Type} {post : S → Prop} {w1 : S → va_W} {mc ms hpc : Nat} {E : String} (F : CallFix p m c cc nL s args Ts own) (hM : TX l y wy rm D T g (.ref b :: As) wc H.size E post w1 mc ms) (cw : CallW R s args own C index y bytes maxL ret wy rm mc ms n) (hrecv : ∃ cell : Cell, H[b]? = some cell ∧ cell.vm.isStatics = false ∧ s.vm.findClass C = some cell.cls)
    (hP : va_P D cls ws H) (hD : va_D A ws) (hK : va_K D cls (tys T) s) (hG : GX g A s s.heap) (hS : va_S A s.heap H locs) (hA : ∀ q, s.heap.size ≤ q → A q) (isC isR : List Nat) {wr : va_W} (hC : isC.map (fun i => ws[i]?) = wc.map some) (hnC : va_nd isC = true) (hR : isR.map (fun i => ws[i]?) = wr.map some) (hnR : va_nd isR = true) (hdis : ∀ i ∈ isR, i ∉ isC) (hf : cells + mc ≤ R.cells ∧ slots + ms ≤ R.slots)
    (hn : As.length = n) (hsize : ls.size = nL) (hW : (rest.map fun v => v.category).sum ≤ 8) (hdg : decode cc pc = .ok (.invokevirtual index, 3)) {st : List Value} (hst : st = As.reverse ++ .ref b :: rest)
    (hx : ∀ (H1 : Heap) (locs1 : List Loc) (q9 : Addr) (ce : Cell), H1[q9]? = some ce → ce.vm = .none → s.vm.findClass E = some ce.cls → W p l e R s m args below meth c H1 locs1 (cells + mc) (slots + ms) Q (F0 m hpc ls [.ref q9]) → vx_W p l e R s m args below meth c H1 locs1 (cells + mc) (slots + ms) Q (F0 m pc ls rest) q9)
    (kk : ∀ (u : S) (q9 : Addr) (H1 : Heap) (locs1 : List Loc), post u → va_P D cls (wr ++ w1 u) H1 → va_D A (wr ++ w1 u) → va_S A s.heap H1 locs1 → W p l e R s m args below meth c H1 locs1 (cells + mc) (slots + ms) Q (F0 m hpc ls [.ref q9])) :
    W p l e R s m args below meth c H locs cells slots Q (F0 m pc ls st) :=
  tc_run (vx_runV F hM cw ⟨fun a U fr mk q => ⟨q.1, q.2.blind⟩, hrecv, fun U hU hW => ⟨rfl, mb_of rfl hP hD hK hG hS hA isC hC hnC hU hW⟩⟩ rfl hn hsize hst (lv_room hW) hdg hf) rfl hP hD hS hA isC isR hC hR hnR hdis hx kk
end TC
