/-! the start: the words that the law's table has not, the statics, the claim's start -/
section ST3
variable {s : State} {zb : Nat}
def law_s3 : List Cond := [Cond.selects RJ4 yJ5_ensureCapacityInternal_d00df yJ5_ensureCapacityInternal_d00df, Cond.selects RJ4 yJ5_newCapacity_0f7a4 yJ5_newCapacity_0f7a4, Cond.selects RJ4 yJ5_inflate_da8c8 yJ5_inflate_da8c8]
theorem law_in0 : ∀ w ∈ wsL_law0, w ∈ lw_tbl ++ law_s3 := fun w h => (goodIn_p wsL_law0 [64, 67, 73, 91, 94, 100, 103, 124, 964, 713, 717, 733, 739, 206, 992, 996, 1000, 1004, 988, 763, 191, 769, 168, 1008, 777, 780, 785, 1013, 1017, 1021, 792, 796, 1025, 805, 810, 1029, 818, 1033, 825, 1037, 832, 836, 1041, 1045, 1049, 844, 666, 239, 1053, 851, 854, 184, 187, 181, 194, 197, 202, 1057, 1061, 1065, 1069, 863, 250, 254, 257, 280, 284, 287, 290, 294, 298, 308, 316, 560, 563, 566, 595, 600, 603, 606, 364, 367, 370, 373, 325, 376, 379, 336, 609, 612, 615, 618, 867, 434, 436, 627, 630, 531, 1073, 875, 879, 673, 677, 681, 661, 217, 243, 686, 689, 692, 697, 700, 641, 648, 652, 657, 1078, 1082, 1086, 1090, 903, 1094, 910, 1098, 1102, 918, 1106, 1110, 1114, 925, 1118, 946, 949, 1122, 959, 1126, 158, 163, 1130, 172, 176, 212, 225, 231, 235, 247, 622, 637, 670, 1136] (by decide +kernel) (by decide +kernel) w h).1
theorem law_ap {a b B : List Cond} (ha : ∀ w ∈ a, w ∈ B) (hb : ∀ w ∈ b, w ∈ B) : ∀ w ∈ a ++ b, w ∈ B := fun w h => (List.mem_append.mp h).elim (ha w) (hb w)
theorem law_in : ∀ w ∈ wsL_law, w ∈ lw_tbl ++ law_s3 := law_ap (law_ap (law_ap (law_ap (law_ap (law_ap law_in0 (by decide +kernel)) (by decide +kernel)) (by decide +kernel)) (by decide +kernel)) (by decide +kernel)) (by decide +kernel)
theorem law_sel {args : Array Value} {C : String} {x y z : MethodName} (hy : y.cls ≠ "java/lang/invoke/MethodHandle" ∧ y.cls ≠ "java/lang/invoke/VarHandle") (hyz : y.cls = z.cls) (hz : (Cond.selects C x z).before args s = true) (hpriv : (Cond.privateMethod y).before args s = true) (hinst : (Cond.instanceMethod y).before args s = true) : (Cond.selects C y y).before args s = true := by
  obtain ⟨mk, methM, hnamed, hmethM, -, -⟩ := Cond.instanceMethod_spec hinst
  have hfound : s.methodFound? y.cls y.name y.desc = some mk := State.methodFound?_of_named hnamed hy
  have hsel : ∀ c : ClassId, selectMethod {} s.vm c mk = .method mk := fun c => selectMethod_private hmethM (Cond.privateMethod_at hpriv mk methM hnamed hmethM)
  simp only [Cond.before, Cond.holds, Cond.value] at hz
  cases hc : s.vm.findClass C with
  | none => simp [hc] at hz
  | some c =>
    cases hr : s.methodFound? x.cls x.name x.desc with
    | none => simp [hc, hr] at hz
    | some r =>
      cases hm : s.methodNamed? z with
      | none => simp [hc, hr, hm] at hz
      | some m =>
        have hcls : mk.cls = m.cls := Option.some.inj ((findClass_of_methodNamed hnamed).symm.trans (by rw [hyz]; exact findClass_of_methodNamed hm))
        cases hk : s.vm.classes[m.cls]? with
        | none =>
          exfalso
          cases hq : selectMethod {} s.vm c r <;> simp [hc, hr, hm, hq, hk] at hz
        | some k =>
          have hni : k.isInterface = false := by
            cases hq : selectMethod {} s.vm c r <;> simp [hc, hr, hm, hq, hk] at hz
            first | exact hz.2 | exact hz
          simp only [Cond.before, Cond.holds, Cond.value, hc, hfound, hnamed, hsel c, hcls, hk]
          simp; exact hni
theorem law_s3_ok (hts : ∀ w ∈ lw_tbl, w.before #[Value.ref zb] s = true) : ∀ w ∈ law_s3, w.before #[Value.ref zb] s = true := by
  have hz : (Cond.selects RJ4 ⟨"java/lang/AbstractStringBuilder", "isLatin1", "()Z"⟩ ⟨"java/lang/AbstractStringBuilder", "isLatin1", "()Z"⟩).before #[Value.ref zb] s = true := hts _ (by decide +kernel)
  refine List.forall_mem_cons.mpr ⟨law_sel ⟨by decide +kernel, by decide +kernel⟩ rfl hz (hts _ (by decide +kernel)) (hts _ (by decide +kernel)), List.forall_mem_cons.mpr ⟨law_sel ⟨by decide +kernel, by decide +kernel⟩ rfl hz (hts _ (by decide +kernel)) (hts _ (by decide +kernel)), List.forall_mem_cons.mpr ⟨law_sel ⟨by decide +kernel, by decide +kernel⟩ rfl hz (hts _ (by decide +kernel)) (hts _ (by decide +kernel)), fun _ h => absurd h List.not_mem_nil⟩⟩⟩
theorem law_hts (hts : ∀ w ∈ lw_tbl, w.before #[Value.ref zb] s = true) : ∀ w ∈ wsL_law, w.before #[Value.ref zb] s = true := fun w hw => (List.mem_append.mp (law_in w hw)).elim (hts w) (law_s3_ok hts w)
def law_g (s : State) (zb t : Nat) (ad : Nat → Nat) (k : Nat) : Nat := if k < 3 then ad k else if k = 3 then t else match (Term.string "Letterloom" k).eval #[Value.ref zb] s none [] s with
  | some (.ref a) => a
  | _ => 0
theorem law_g_lt {t : Nat} {ad : Nat → Nat} {i : Nat} (h : i < 3) : law_g s zb t ad i = ad i := if_pos h
theorem law_g_3 {t : Nat} {ad : Nat → Nat} : law_g s zb t ad 3 = t := by simp [law_g]
theorem law_g_s {t a : Nat} {ad : Nat → Nat} {k : Nat} (h : 3 < k) (he : (Term.string "Letterloom" k).eval #[Value.ref zb] s none [] s = some (.ref a)) : law_g s zb t ad k = a := by
  have h1 : ¬ k < 3 := by omega
  have h2 : ¬ k = 3 := by omega
  simp only [law_g, if_neg h1, if_neg h2, he]
theorem law_q0 : ∀ i, i < KN.length → Cond.laysStatic RX0 (KN.getD i "") "LLetterloom$Kind;" ∈ lw_tbl := by decide +kernel
theorem law_q1 : ∀ i, i < KN.length → Cond.exactly (.static RX0 (KN.getD i "") "LLetterloom$Kind;") RX0 ∈ flatC (Jvm.Cond.and given_1 narrow_1) := by decide +kernel
theorem law_q2 : ∀ q ∈ FK, ∀ i, i < KN.length → Cond.eq (.field (.static RX0 (KN.getD i "") "LLetterloom$Kind;") q.1 q.2.1 q.2.2.1) (.int (q.2.2.2.getD i 0)) ∈ flatC (Jvm.Cond.and given_1 narrow_1) := by decide +kernel
theorem law_q3 : ∀ i, i < KN.length → ∀ j, j < KN.length → i ≠ j → Cond.not (.eq (.static RX0 (KN.getD i "") "LLetterloom$Kind;") (.static RX0 (KN.getD j "") "LLetterloom$Kind;")) ∈ flatC (Jvm.Cond.and given_1 narrow_1) ∨ Cond.not (.eq (.static RX0 (KN.getD j "") "LLetterloom$Kind;") (.static RX0 (KN.getD i "") "LLetterloom$Kind;")) ∈ flatC (Jvm.Cond.and given_1 narrow_1) := by decide +kernel
theorem law_q4 : ∀ j, j < 3 → Cond.eq (.elem (.static RX5 "KINDS" "[LLetterloom$Kind;") (.int (Int32.ofNat j))) (.static RX0 (KN.getD j "") "LLetterloom$Kind;") ∈ flatC (Jvm.Cond.and given_1 narrow_1) := by decide +kernel
theorem law_q5 : ∀ q ∈ strK, Cond.exactly (.string "Letterloom" q.1) "java/lang/String" ∈ flatC (Jvm.Cond.and given_1 narrow_1) := by decide +kernel
theorem law_q6 : ∀ q ∈ strK, Cond.stringRef "Letterloom" q.1 q.2 ∈ lw_tbl := by decide +kernel
theorem law_q7 : ∀ q ∈ nestF, Cond.fieldLinkNest q.1 q.2.1 q.2.2.1 q.2.2.2.1 q.2.2.2.2 "Letterloom" ∈ lw_tbl := by decide +kernel
theorem law_q8 : ∀ q ∈ nestM, Cond.methodLinkNest q.1 q.2.1 q.2.2 "Letterloom" ∈ lw_tbl := by decide +kernel
theorem law_q9 : ∀ w ∈ xw, w ∈ lw_tbl := by decide +kernel
theorem law_qk : ∀ q ∈ strK, 3 < q.1 := by decide +kernel
theorem law_G (hts : ∀ w ∈ lw_tbl, w.before #[Value.ref zb] s = true) (hgv : (Jvm.Cond.and given_1 narrow_1).before #[Value.ref zb] s = true) : ∃ g : Nat → Nat, GX g (fun q => s.heap.size ≤ q) s s.heap := by
  have hs := flat_of_before _ hgv
  have hA : ∀ a : Nat, a < s.heap.size → ¬ (fun q => s.heap.size ≤ q) a := fun a h => Nat.not_le.mpr h
  obtain ⟨ad, hE, hEv⟩ := va_Enof2 (args := #[Value.ref zb]) (s := s) (E := RX0) (d := "LLetterloom$Kind;") (nm := KN) (F := FK) (A := fun q => s.heap.size ≤ q) (fun i hi => hts _ (law_q0 i hi)) (hts _ (by decide +kernel)) (fun i hi => hs _ (law_q1 i hi)) (fun q hq i hi => hs _ (law_q2 q hq i hi)) (fun i j hi hj hne => (law_q3 i hi j hj hne).imp (fun h => hs _ h) (fun h => hs _ h)) hA
  have hln : (Cond.eq (.length (.static RX5 "KINDS" "[LLetterloom$Kind;")) (.int 3)).before #[Value.ref zb] s = true := hs _ (by decide +kernel)
  have harr : (Cond.arrayOf (.static RX5 "KINDS" "[LLetterloom$Kind;") (.object RX0)).before #[Value.ref zb] s = true := hs _ (by decide +kernel)
  obtain ⟨t, ht, hT⟩ := va_Tof (args := #[Value.ref zb]) (s := s) (tm := .static RX5 "KINDS" "[LLetterloom$Kind;") (ty := .object RX0) (N := 3) (f := fun j => .ref (ad j)) (A := fun q => s.heap.size ≤ q) (by decide) harr (va_eqt hln) (fun j hj => va_eqv (hs _ (law_q4 j hj)) (hEv j hj)) hA
  have hstr : ∀ q ∈ strK, ∃ a : Nat, (Term.string "Letterloom" q.1).eval #[Value.ref zb] s none [] s = some (.ref a) := fun q hq => by
    obtain ⟨a, c, cell, k, h1, -⟩ := Cond.exactly_spec (hs _ (law_q5 q hq))
    exact ⟨a, h1⟩
  refine ⟨law_g s zb t ad, ?_, ?_, ?_, ?_, ?_, ?_, ?_, ?_, ?_, ?_, ?_, ?_⟩
  · exact ⟨fun i hi => by rw [law_g_lt (show i < 3 from hi)]; exact hE.1 i hi, fun i j hi hj h => hE.2 i j hi hj (by rw [law_g_lt (show i < 3 from hi), law_g_lt (show j < 3 from hj)] at h; exact h)⟩
  · rw [law_g_3]
    exact va_Zref (hts _ (by decide +kernel)) (hts _ (by decide +kernel)) ht hA
  · rw [law_g_3]
    obtain ⟨cell, h1, h2, h3, h4, h5, h6, h7⟩ := hT
    exact ⟨cell, h1, h2, h3, h4, h5, fun j hj => by show _ = some (Value.ref (law_g s zb t ad j)); rw [law_g_lt hj]; exact h6 j hj, h7⟩
  · have hv : (Cond.eq (.static "java/lang/String" "COMPACT_STRINGS" "Z") (.int 1)).before #[Value.ref zb] s = true := hs _ (by decide +kernel)
    exact va_Zof (hts _ (by decide +kernel)) (hts _ (by decide +kernel)) (va_eqi hv) hA
  · exact va_Zqof (args := #[Value.ref zb]) (hts _ (by decide +kernel)) (hts _ (by decide +kernel)) (hs _ (by decide +kernel)) hA
  · exact vx_Zqof (args := #[Value.ref zb]) (hts _ (by decide +kernel)) (hts _ (by decide +kernel)) (hs _ (by decide +kernel)) hA
  · exact vx_Zqof (args := #[Value.ref zb]) (hts _ (by decide +kernel)) (hts _ (by decide +kernel)) (hs _ (by decide +kernel)) hA
  · exact fun q hq => va_Nw.of rfl (hts _ (law_q7 q hq))
  · exact fun q hq => va_Nw.of rfl (hts _ (law_q8 q hq))
  · intro q hq
    obtain ⟨a, ha⟩ := hstr q hq
    rw [law_g_s (law_qk q hq) ha]
    exact vk_R.of (hts _ (law_q6 q hq)) ha
  · exact va_AO.of (A := #[Value.ref zb]) (hts _ (by decide +kernel))
  · exact fun w hw => va_Nw.of (xw_ok w hw).2 (hts w (law_q9 w hw))
end ST3
