/-! what the start gives: the classes -/
section ST
variable {s : State} {zb : Nat}
theorem arr_of {ty : FieldType} (h : (Cond.arrayClass ty).before #[Value.ref zb] s = true) : ∃ cA : ClassId, ArrOfT s cA ty ∧ s.vm.findClass ("[" ++ ty.toString) = some cA := by
  obtain ⟨c, k, comp, h1, h2, h3⟩ := Cond.arrayClass_spec h
  exact ⟨c, fun n z => ⟨fun k h => (by cases h), k, h2, comp, h3⟩, h1⟩
theorem arr_ofO {C : String} (h : (Cond.arrayOver (.object C)).before #[Value.ref zb] s = true) : ∃ cA : ClassId, ArrOfT s cA (.object C) ∧ va_RA s cA (.object C) := by
  obtain ⟨comp, c, k, h1, h2, h3, h4, h5⟩ := Cond.arrayOver_spec h
  exact ⟨c, fun n z => ⟨fun k h => (by cases h), k, h3, comp, h4⟩, ⟨k, comp, h3, h4, h1, h5⟩⟩
theorem ix_none {α : Type} {l : List α} {q : α} {k : Nat} (h : l[k]? = some q) (hk : l.length ≤ k) : False := by
  rw [List.getElem?_eq_none hk] at h
  exact absurd h (fun z => nomatch z)
theorem law_K (hts : ∀ w ∈ wsL_law, w.before #[Value.ref zb] s = true) (hAO : (Cond.arrayOver (.object RX2)).before #[Value.ref zb] s = true) : ∃ (D : va_G) (T : Nat → ClassId), va_K D cls (tys T) s := by
  obtain ⟨c0, i0, k0⟩ := u_known (C := RX2) (T := TX2) (N := 2) (n := 2) hts (by decide +kernel) (hts _ (by decide +kernel))
  obtain ⟨c1, i1, k1⟩ := u_known (C := RX1) (T := TX1) (N := 3) (n := 3) hts (by decide +kernel) (hts _ (by decide +kernel))
  obtain ⟨c2, i2, k2⟩ := u_known (C := RX5) (T := TX5) (N := 5) (n := 5) hts (by decide +kernel) (hts _ (by decide +kernel))
  obtain ⟨c3, i3, k3⟩ := u_known (C := RX6) (T := TX6) (N := 6) (n := 6) hts (by decide +kernel) (hts _ (by decide +kernel))
  obtain ⟨c4, i4, k4⟩ := u_known (C := RJ4) (T := TJ4) (N := 4) (n := 4) hts (by decide +kernel) (hts _ (by decide +kernel))
  obtain ⟨t0, a0, n0⟩ := arr_of (ty := .int) (hts _ (by decide +kernel))
  obtain ⟨t1, a1, n1⟩ := arr_of (ty := .byte) (hts _ (by decide +kernel))
  obtain ⟨t2, a2, n2⟩ := arr_ofO hAO
  obtain ⟨t3, a3, n3⟩ := arr_of (ty := .long) (hts _ (by decide +kernel))
  obtain ⟨t4, a4, n4⟩ := arr_of (ty := .double) (hts _ (by decide +kernel))
  refine ⟨(fun k => [c0, c1, c2, c3, c4].getD k c0, fun k => [i0, i1, i2, i3, i4].getD k i0), fun k => [t0, t1, t2, t3, t4].getD k t0, ?_, ?_⟩
  · intro c q hq
    match c, hq with
    | 0, hq => obtain rfl := Option.some.inj (show some ((RX2, TX2, 2) : vw_C) = some q from hq); exact k0
    | 1, hq => obtain rfl := Option.some.inj (show some ((RX1, TX1, 3) : vw_C) = some q from hq); exact k1
    | 2, hq => obtain rfl := Option.some.inj (show some ((RX5, TX5, 5) : vw_C) = some q from hq); exact k2
    | 3, hq => obtain rfl := Option.some.inj (show some ((RX6, TX6, 6) : vw_C) = some q from hq); exact k3
    | 4, hq => obtain rfl := Option.some.inj (show some ((RJ4, TJ4, 4) : vw_C) = some q from hq); exact k4
    | n + 5, hq => exact (ix_none hq (Nat.le_add_left 5 n)).elim
  · intro k q hq
    match k, hq with
    | 0, hq => obtain rfl := Option.some.inj (show some ((t0, .int) : ClassId × FieldType) = some q from hq); exact ⟨a0, n0⟩
    | 1, hq => obtain rfl := Option.some.inj (show some ((t1, .byte) : ClassId × FieldType) = some q from hq); exact ⟨a1, n1⟩
    | 2, hq => obtain rfl := Option.some.inj (show some ((t2, .object RX2) : ClassId × FieldType) = some q from hq); exact ⟨a2, n2⟩
    | 3, hq => obtain rfl := Option.some.inj (show some ((t3, .long) : ClassId × FieldType) = some q from hq); exact ⟨a3, n3⟩
    | 4, hq => obtain rfl := Option.some.inj (show some ((t4, .double) : ClassId × FieldType) = some q from hq); exact ⟨a4, n4⟩
    | n + 5, hq => exact (ix_none hq (Nat.le_add_left 5 n)).elim
theorem as_self (vm : Vm) (c : ClassId) : vm.assignable c c = true := by
  show vm.assignableAux (255 + 1) c c = true
  rw [Vm.assignableAux]
  simp only [beq_self_eq_true, Bool.true_or]
theorem law_N (hgv : (Jvm.Cond.and given_1 narrow_1).before #[Value.ref zb] s = true) : NC s := by
  have hs := flat_of_before _ hgv
  have h1 : ∀ q ∈ ncL, va_Nc q.1 q.2 s := by
    intro q hq
    simp only [ncL, List.mem_cons, List.not_mem_nil, or_false] at hq
    rcases hq with rfl | rfl | rfl | rfl | rfl | rfl | rfl | rfl <;> exact va_Nc.of (hs _ (by decide +kernel))
  have hl : ∀ q ∈ ncL, va_Yc q.1 q.1 s ∧ va_Yc q.2 q.2 s := fun q hq => by
    obtain ⟨c, t, a1, a2, -⟩ := h1 q hq
    exact ⟨⟨c, c, a1, a1, as_self _ _⟩, ⟨t, t, a2, a2, as_self _ _⟩⟩
  refine ⟨h1, fun q hq => ?_⟩
  simp only [ycL, List.mem_cons, List.not_mem_nil, or_false] at hq
  rcases hq with rfl | rfl | rfl | rfl | rfl
  · exact (hl _ (List.mem_of_getElem? (i := 0) rfl)).2
  · exact (hl _ (List.mem_of_getElem? (i := 0) rfl)).1
  · exact (hl _ (List.mem_of_getElem? (i := 1) rfl)).1
  · exact (hl _ (List.mem_of_getElem? (i := 3) rfl)).1
  · exact (hl _ (List.mem_of_getElem? (i := 6) rfl)).1
end ST
