/-! the whole world of the class, and what it holds -/
/-- rows (6: draft, 7: bare, 8: found), the reader, the text, the numbers that the law is given -/
abbrev LSt := (Nat → Nat → Int32) × (Nat → Nat) × Int32 × Int32 × Nat × Int32 × Nat × Nat × (Nat → Int32) × (Nat → Int64) × (Nat → UInt64)
def lwF' (u : LSt) : Nat → Nat → Int32 := u.1
def LC (T : Nat → ClassId) (a : Nat → Nat) (F : Nat → Nat → Int32) (N : Nat → Nat) (B0 hd : Int32) (tv : Nat) (ml : Int32) (cnt k0 : Nat) (fb : Nat → Int32) (o : Nat → Int64) (oD : Nat → UInt64) (k : Nat) : Nat × va_E :=
  if k = 0 then (a 0, .inr (2, [.ref (a 1), .ref (a 14), .ref (a 16), .ref (a 21), .ref (a 20)]))
  else if k = 1 then (a 1, .inl (T 2, 6, .inr (.inr (.inr (.inr (fun j => some (a (2 + 2 * j))))))))
  else if k = 20 then (a 20, .inr (1, [.ref (a 18), .int B0, .int hd]))
  else if k = 21 then (a 21, .inr (4, [.ref tv, .int (nI 0), .int ml, .int (nI cnt)]))
  else if k = 22 then (tv, .inl (T 1, capL k0, .inl fb))
  else if k = 23 then (a 23, .inl (T 3, 1, .inr (.inl o)))
  else if k = 24 then (a 24, .inl (T 4, 1, .inr (.inr (.inr (.inl oD)))))
  else if k % 2 = 0 then (a k, .inr (0, [.ref (a (k + 1)), .int (nI (N ((k - 2) / 2)))]))
  else (a k, .inl (T 0, 440, .inl (F ((k - 2) / 2))))
def LCu (T : Nat → ClassId) (a : Nat → Nat) (u : LSt) : Nat → Nat × va_E := LC T a u.1 u.2.1 u.2.2.1 u.2.2.2.1 u.2.2.2.2.1 u.2.2.2.2.2.1 u.2.2.2.2.2.2.1 u.2.2.2.2.2.2.2.1 u.2.2.2.2.2.2.2.2.1 u.2.2.2.2.2.2.2.2.2.1 u.2.2.2.2.2.2.2.2.2.2
def LW (T : Nat → ClassId) (a : Nat → Nat) (u : LSt) : va_W := (List.range 25).map (LCu T a u)
theorem LW_len (T : Nat → ClassId) (a : Nat → Nat) (u : LSt) : (LW T a u).length = 25 := by unfold LW; rw [List.length_map, List.length_range]
theorem LW_get (T : Nat → ClassId) (a : Nat → Nat) (u : LSt) {k : Nat} (h : k < 25) : (LW T a u)[k]? = some (LCu T a u k) := by
  unfold LW; rw [List.getElem?_map, List.getElem?_range h]; rfl
theorem LW_map (T : Nat → ClassId) (a : Nat → Nat) (u : LSt) {ks : List Nat} (h : ∀ k ∈ ks, k < 25) : ks.map (fun k => (LW T a u)[k]?) = (ks.map (LCu T a u)).map some := by
  rw [List.map_map]
  exact List.map_congr_left (fun k hk => LW_get T a u (h k hk))
section LCS
variable {T : Nat → ClassId} {a : Nat → Nat} {F F' : Nat → Nat → Int32} {N N' : Nat → Nat} {B0 hd B0' hd' : Int32} {tv tv' : Nat} {ml ml' : Int32} {cnt k0 cnt' k0' : Nat} {fb fb' : Nat → Int32} {o o' : Nat → Int64} {oD oD' : Nat → UInt64}
theorem LC_o {i : Nat} (hi : i < 9) : LC T a F N B0 hd tv ml cnt k0 fb o oD (2 + 2 * i) = (a (2 + 2 * i), .inr (0, [.ref (a (2 + 2 * i + 1)), .int (nI (N i))])) := by
  unfold LC
  rw [if_neg (by omega), if_neg (by omega), if_neg (by omega), if_neg (by omega), if_neg (by omega), if_neg (by omega), if_neg (by omega), if_pos (by omega), show (2 + 2 * i - 2) / 2 = i from by omega]
theorem LC_a {i : Nat} (hi : i < 9) : LC T a F N B0 hd tv ml cnt k0 fb o oD (2 + 2 * i + 1) = (a (2 + 2 * i + 1), .inl (T 0, 440, .inl (F i))) := by
  unfold LC
  rw [if_neg (by omega), if_neg (by omega), if_neg (by omega), if_neg (by omega), if_neg (by omega), if_neg (by omega), if_neg (by omega), if_neg (by omega), show (2 + 2 * i + 1 - 2) / 2 = i from by omega]
/-- a cell that nothing was done to -/
theorem LC_same {k : Nat} (hr : 2 ≤ k → k < 20 → F' ((k - 2) / 2) = F ((k - 2) / 2) ∧ N' ((k - 2) / 2) = N ((k - 2) / 2)) (hk : k < 25) (h20 : k = 20 → B0' = B0 ∧ hd' = hd) (h21 : k = 21 → tv' = tv ∧ ml' = ml ∧ cnt' = cnt) (h22 : k = 22 → tv' = tv ∧ k0' = k0 ∧ fb' = fb) (h23 : k = 23 → o' = o) (h24 : k = 24 → oD' = oD) :
    LC T a F' N' B0' hd' tv' ml' cnt' k0' fb' o' oD' k = LC T a F N B0 hd tv ml cnt k0 fb o oD k := by
  unfold LC
  by_cases e0 : k = 0
  · rw [if_pos e0, if_pos e0]
  rw [if_neg e0, if_neg e0]
  by_cases e1 : k = 1
  · rw [if_pos e1, if_pos e1]
  rw [if_neg e1, if_neg e1]
  by_cases e2 : k = 20
  · rw [if_pos e2, if_pos e2, (h20 e2).1, (h20 e2).2]
  rw [if_neg e2, if_neg e2]
  by_cases e3 : k = 21
  · rw [if_pos e3, if_pos e3, (h21 e3).1, (h21 e3).2.1, (h21 e3).2.2]
  rw [if_neg e3, if_neg e3]
  by_cases e4 : k = 22
  · rw [if_pos e4, if_pos e4, (h22 e4).1, (h22 e4).2.1, (h22 e4).2.2]
  rw [if_neg e4, if_neg e4]
  by_cases e5 : k = 23
  · rw [if_pos e5, if_pos e5, h23 e5]
  rw [if_neg e5, if_neg e5]
  by_cases e6 : k = 24
  · rw [if_pos e6, if_pos e6, h24 e6]
  rw [if_neg e6, if_neg e6]
  have h := hr (by omega) (by omega)
  rw [h.1, h.2]
end LCS
/-- what the class's world holds: the rows' bytes, the text -/
def LI (F : Nat → Nat → Int32) (N : Nat → Nat) (fb : Nat → Int32) (k0 cnt : Nat) (B : Nat → Nat → Nat) : Prop := (∀ i, i < 6 → RB (F i) (N i) (B i) ∧ N i ≤ 320) ∧ sb_Fit fb ∧ k0 ≤ 5 ∧ cnt ≤ 574
def LIu (u : LSt) (B : Nat → Nat → Nat) : Prop := LI u.1 u.2.1 u.2.2.2.2.2.2.2.2.1 u.2.2.2.2.2.2.2.1 u.2.2.2.2.2.2.1 B
theorem LI_row {F F' : Nat → Nat → Int32} {N N' : Nat → Nat} {fb : Nat → Int32} {k0 cnt : Nat} {B : Nat → Nat → Nat} (h : LI F N fb k0 cnt B) {i m : Nat} {f : Nat → Int32} {w : Nat → Nat} (hf : F' i = f) (hm : N' i = m) (hr : RB f m w) (hm3 : m ≤ 320) (ho : ∀ j, j < 6 → ¬ j = i → F' j = F j ∧ N' j = N j) : LI F' N' fb k0 cnt (upA B i w) := by
  refine ⟨fun j hj => ?_, h.2⟩
  by_cases e : j = i
  · subst e; rw [upA_s, hf, hm]; exact ⟨hr, hm3⟩
  · rw [upA_n _ _ e, (ho j hj e).1, (ho j hj e).2]; exact h.1 j hj
theorem LI_same {F F' : Nat → Nat → Int32} {N N' : Nat → Nat} {fb : Nat → Int32} {k0 cnt : Nat} {B : Nat → Nat → Nat} (h : LI F N fb k0 cnt B) (ho : ∀ j, j < 6 → F' j = F j ∧ N' j = N j) : LI F' N' fb k0 cnt B := ⟨fun j hj => by rw [(ho j hj).1, (ho j hj).2]; exact h.1 j hj, h.2⟩
theorem LI_text {F : Nat → Nat → Int32} {N : Nat → Nat} {fb fb' : Nat → Int32} {k0 cnt k0' cnt' : Nat} {B : Nat → Nat → Nat} (h : LI F N fb k0 cnt B) (h1 : sb_Fit fb') (h2 : k0' ≤ 5) (h3 : cnt' ≤ 574) : LI F N fb' k0' cnt' B := ⟨h.1, h1, h2, h3⟩
def uO (u : LSt) : Nat → Int64 := u.2.2.2.2.2.2.2.2.2.1
def uD (u : LSt) : Nat → UInt64 := u.2.2.2.2.2.2.2.2.2.2
/-- one of the law's own calls: what it answers, and what the class's world is then -/
def HC (l : Launch) (y : MethodName) (wy : List Cond) (D : va_G) (T : Nat → ClassId) (g : Nat → Nat) (a : Nat → Nat) (u : LSt) (av : List Value) (c : Nat) (N' : Nat → Nat) (B' : Nat → Nat → Nat) (ov : LSt → Prop) : Prop :=
  ∀ sz : Nat, MUN l y wy ({ frames := 80, cells := 5, slots := 1106, locals := 4000 } : Room) D T g av (LW T a u) sz (S := LSt) (fun _ => some (.int (nI c))) (fun u' => LIu u' B' ∧ (∀ j, j < 6 → u'.2.1 j = N' j) ∧ ov u') (LW T a) 5 1106
theorem cs_eq {α : Type} {x y : α} {xs ys : List α} (h : x = y) (t : xs = ys) : x :: xs = y :: ys := by rw [h, t]
theorem ob_eq {T : Nat → ClassId} {b c d : Nat} {n m : Nat} {X : Nat × va_E} (h : X = (b, .inr (c, [.ref d, .int (nI n)]))) (e : n = m) : X = (b, .inr (c, [.ref d, .int (nI m)])) := by rw [h, e]
theorem ar_eq {b : Nat} {cA : ClassId} {f f' : Nat → Int32} {X : Nat × va_E} (h : X = (b, .inl (cA, 440, .inl f))) (e : f = f') : X = (b, .inl (cA, 440, .inl f')) := by rw [h, e]
