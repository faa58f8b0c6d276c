/-! texts -/
section BT
variable {p : Program} {l : Launch} {e : Env} {R : Room} {s : State} {m : MethodId} {args : Array Value} {below : List Frame} {meth : Method} {c : Code} {H : Heap} {locs : List Loc} {cells slots : Nat} {Q : State → Prop}
variable {cc bytes : ByteArray} {pc maxL nL n index : Nat} {ls : Array Slot} {rest : List Value} {ret : Option FieldType}
variable {D : va_G} {T : Nat → ClassId} {g : Nat → Nat} {A : Nat → Prop} {ws wc : va_W} {H0 : Heap} {y : MethodName} {wy Ts : List Cond} {rm : Room} {own C : String} {b : Addr} {As : List Value} {r : Value}
theorem rv_U {owner : String} {x : MethodName} (S : CallFix p m c cc nL s args Ts own) (hM : RV l y wy rm D T g (.ref b :: As) wc) (cw : va_CU R s args own C owner index x y bytes maxL ret wy rm 0 0 n) (hrecv : ∃ cell : Cell, H[b]? = some cell ∧ cell.vm.isStatics = false ∧ s.vm.findClass C = some cell.cls)
    (hP : va_P D cls ws H) (hK : va_K D cls (tys T) s) (hG : GX g A s s.heap) (hS : va_S A s.heap H locs) (isC : List Nat) (hC : isC.filterMap (fun i => ws[i]?) = wc) (hf : cells ≤ R.cells ∧ slots ≤ R.slots)
    (hn : As.length = n) (hsize : ls.size = nL) (hW : (rest.map fun v => v.category).sum ≤ 8) (hdg : decode cc pc = .ok (.invokevirtual index, 3)) {st : List Value} (hst : st = As.reverse ++ .ref b :: rest)
    (kk : W p l e R s m args below meth c H locs cells slots Q (F0 m (pc + 3) ls rest)) : W p l e R s m args below meth c H locs cells slots Q (F0 m pc ls st) :=
  va_csv (post := fun _ => True) (va_runU S hM cw ⟨fun a U fr mk q => ⟨q.1, q.2.blind⟩, hrecv, fun U hU hW => ⟨rfl, pb_of hP hK hG hS isC hC hU hW⟩⟩ rfl hn hsize hst (lv_room hW) hdg hf).run (fun _ => kk)
theorem newa_id1 {cA : ClassId} (h : va_K D cls (tys T ++ [(cA, .byte)]) s) : cA = T 1 := Option.some.inj ((h.2 5 _ rfl).2.symm.trans (h.2 1 _ rfl).2)
theorem newa_id0 {cA : ClassId} (h : va_K D cls (tys T ++ [(cA, .int)]) s) : cA = T 0 := Option.some.inj ((h.2 5 _ rfl).2.symm.trans (h.2 0 _ rfl).2)
theorem newa_id3 {cA : ClassId} (h : va_K D cls (tys T ++ [(cA, .long)]) s) : cA = T 3 := Option.some.inj ((h.2 5 _ rfl).2.symm.trans (h.2 3 _ rfl).2)
theorem newa_id4 {cA : ClassId} (h : va_K D cls (tys T ++ [(cA, .double)]) s) : cA = T 4 := Option.some.inj ((h.2 5 _ rfl).2.symm.trans (h.2 4 _ rfl).2)
end BT
theorem i2cN {n : Nat} (h : n < 65536) : ((nI n).toUInt32 % 65536).toInt32 = nI n := by
  rw [pk_char, pk_tn (by omega), Nat.mod_eq_of_lt h]
theorem i2bN : ∀ n, n < 128 → (nI n).toInt8.toInt32 = nI n := by decide +kernel
theorem nar8 {n : Nat} (h : n < 128) : vp_nar .byte (nI n) = nI n := by rw [vp_nar_byte]; exact i2bN n h
theorem fit8 : ∀ n, n < 128 → fits .byte (.int (nI n)) = true := by decide +kernel
theorem sub_le0 {a b : Nat} (h : a ≤ b) (hb : b < 2 ^ 30) : nI a - nI b ≤ 0 := by
  rcases Nat.lt_or_ge a b with q | q
  · exact Int32.le_of_lt (pk_sneg hb q)
  · have e : a = b := by omega
    subst e
    rw [Int32.sub_self]
    exact Int32.le_refl _
/-- a text: fb holds the signs w, cnt of them, in room for cap -/
def TB (fb : Nat → Int32) (cap cnt : Nat) (w : Nat → Nat) : Prop := sb_Fit fb ∧ cnt ≤ cap ∧ cap ≤ 574 ∧ ∀ j, j < cnt → fb j = nI (w j) ∧ w j < 128
def capL : Nat → Nat
  | 0 => 16
  | k + 1 => 2 * capL k + 2
def slL : Nat → Nat
  | 0 => 0
  | k + 1 => slL k + (2 * capL k + 2)
/-- the level of the text's room when i signs more than none have come, from the level k on -/
def lvL (k : Nat) : Nat → Nat
  | 0 => k
  | i + 1 => if i = capL (lvL k i) then lvL k i + 1 else lvL k i
theorem capL_mono {a b : Nat} (h : a ≤ b) : capL a ≤ capL b := by
  induction b with
  | zero => have e : a = 0 := by omega
            subst e; exact Nat.le_refl _
  | succ b ih =>
    rcases Nat.lt_or_ge a (b + 1) with q | q
    · have := ih (by omega); show capL a ≤ 2 * capL b + 2; omega
    · have e : a = b + 1 := by omega
      subst e; exact Nat.le_refl _
theorem slL_mono {a b : Nat} (h : a ≤ b) : slL a ≤ slL b := by
  induction b with
  | zero => have e : a = 0 := by omega
            subst e; exact Nat.le_refl _
  | succ b ih =>
    rcases Nat.lt_or_ge a (b + 1) with q | q
    · have := ih (by omega); show slL a ≤ slL b + (2 * capL b + 2); omega
    · have e : a = b + 1 := by omega
      subst e; exact Nat.le_refl _
theorem lvL_ge (k : Nat) : ∀ i, k ≤ lvL k i
  | 0 => Nat.le_refl _
  | i + 1 => by have := lvL_ge k i; simp only [lvL]; split <;> omega
theorem lvL_mono (k : Nat) {a b : Nat} (h : a ≤ b) : lvL k a ≤ lvL k b := by
  induction b with
  | zero => have e : a = 0 := by omega
            subst e; exact Nat.le_refl _
  | succ b ih =>
    rcases Nat.lt_or_ge a (b + 1) with q | q
    · have := ih (by omega); simp only [lvL]; split <;> omega
    · have e : a = b + 1 := by omega
      subst e; exact Nat.le_refl _
theorem capL5 : capL 5 = 574 := rfl
theorem lvL_le {k : Nat} (hk : k ≤ 5) : ∀ i, i ≤ 574 → lvL k i ≤ 5
  | 0, _ => hk
  | i + 1, h => by
    have ih := lvL_le hk i (by omega)
    simp only [lvL]; split
    · rename_i q
      rcases Nat.lt_or_ge (lvL k i) 5 with r | r
      · omega
      · have e : lvL k i = 5 := by omega
        rw [e, capL5] at q; omega
    · exact ih
theorem lvL_cap (k : Nat) : ∀ i, i ≤ capL (lvL k i)
  | 0 => Nat.zero_le _
  | i + 1 => by
    have ih := lvL_cap k i
    simp only [lvL]; split
    · show i + 1 ≤ 2 * capL (lvL k i) + 2; omega
    · omega
theorem lvL_y {k i : Nat} (h : i = capL (lvL k i)) : lvL k (i + 1) = lvL k i + 1 := if_pos h
theorem lvL_n {k i : Nat} (h : ¬ i = capL (lvL k i)) : lvL k (i + 1) = lvL k i := if_neg h
theorem capL_le {k : Nat} (h : k ≤ 5) : capL k ≤ 574 := capL_mono h
