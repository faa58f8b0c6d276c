/-! the reader: the worths of the letters ahead of a place, the bytes of them -/
theorem ni_dec8 {e : Nat} (h : 8 ≤ e) : nI e + Int32.ofInt (-8) = nI (e - 8) := by
  rw [← pk_sub h, Int32.sub_eq_add_neg]
  rfl
def lwS (k : Nat) (b : Nat → Nat) : Nat → List Nat
  | 0 => []
  | p + 1 => if isL k (b p) then lwS k b p ++ [wN k (b p)] else lwS k b p
theorem lwS_y {k : Nat} {b : Nat → Nat} {p : Nat} (h : isL k (b p) = true) : lwS k b (p + 1) = lwS k b p ++ [wN k (b p)] := if_pos h
theorem lwS_n {k : Nat} {b : Nat → Nat} {p : Nat} (h : isL k (b p) = false) : lwS k b (p + 1) = lwS k b p := if_neg (by rw [h]; decide)
theorem lwS_len (k : Nat) (b : Nat → Nat) : ∀ p, (lwS k b p).length = ctN (ltB k b) p
  | 0 => rfl
  | p + 1 => by
    have ih := lwS_len k b p
    cases h : isL k (b p) with
    | true => rw [lwS_y h, List.length_append, ih, ctN_t (show ltB k b p = true from h)]; rfl
    | false => rw [lwS_n h, ih, ctN_f (show ltB k b p = false from h)]
theorem lwS_le (k : Nat) (b : Nat → Nat) (p : Nat) : (lwS k b p).length ≤ p := by rw [lwS_len]; exact ctN_le _ _
theorem lwS_64 (k : Nat) (b : Nat → Nat) : ∀ p, ∀ x ∈ lwS k b p, x < 64
  | 0, x, h => absurd h List.not_mem_nil
  | p + 1, x, h => by
    have ih := lwS_64 k b p
    cases e : isL k (b p) with
    | true =>
      rw [lwS_y e] at h
      rcases List.mem_append.mp h with h | h
      · exact ih x h
      · rw [List.mem_singleton.mp h]; exact of_decide_eq_true e
    | false => rw [lwS_n e] at h; exact ih x h
theorem gd64 {v : List Nat} (h : ∀ x ∈ v, x < 64) (i : Nat) : v.getD i 0 < 64 := by
  rw [List.getD_eq_getElem?_getD]
  cases e : v[i]? with
  | none => show 0 < 64; omega
  | some x => exact h x (List.mem_of_getElem? e)
theorem gdA {v : List Nat} {w i : Nat} (h : i < v.length) : (v ++ [w]).getD i 0 = v.getD i 0 := by
  rw [List.getD_eq_getElem?_getD, List.getD_eq_getElem?_getD, List.getElem?_append_left h]
theorem gdE {v : List Nat} {w : Nat} : (v ++ [w]).getD v.length 0 = w := by
  rw [List.getD_eq_getElem?_getD, List.getElem?_append_right (Nat.le_refl _), Nat.sub_self]; rfl
/-- the letters that don't make a whole group yet, as one number -/
def parB (v : List Nat) : Nat := if v.length % 4 = 0 then 0 else if v.length % 4 = 1 then v.getD (v.length - 1) 0 else if v.length % 4 = 2 then v.getD (v.length - 2) 0 * 64 + v.getD (v.length - 1) 0 else v.getD (v.length - 3) 0 * 4096 + v.getD (v.length - 2) 0 * 64 + v.getD (v.length - 1) 0
/-- the byte at a place of what the letters are -/
def outB (v : List Nat) (j : Nat) : Nat := if j % 3 = 0 then v.getD (j / 3 * 4) 0 * 4 + v.getD (j / 3 * 4 + 1) 0 / 16 else if j % 3 = 1 then v.getD (j / 3 * 4 + 1) 0 % 16 * 16 + v.getD (j / 3 * 4 + 2) 0 / 4 else v.getD (j / 3 * 4 + 2) 0 % 4 * 64 + v.getD (j / 3 * 4 + 3) 0
theorem outB_lt {v : List Nat} (h : ∀ x ∈ v, x < 64) (j : Nat) : outB v j < 256 := by
  have h0 := gd64 h (j / 3 * 4); have h1 := gd64 h (j / 3 * 4 + 1); have h2 := gd64 h (j / 3 * 4 + 2); have h3 := gd64 h (j / 3 * 4 + 3)
  unfold outB; (repeat' split) <;> omega
theorem parB_lt {v : List Nat} (h : ∀ x ∈ v, x < 64) : parB v < 262144 := by
  have h1 := gd64 h (v.length - 1); have h2 := gd64 h (v.length - 2); have h3 := gd64 h (v.length - 3)
  unfold parB; (repeat' split) <;> omega
theorem lenA (v : List Nat) (w : Nat) : (v ++ [w]).length = v.length + 1 := by rw [List.length_append]; rfl
theorem parB_app {v : List Nat} {w : Nat} (h : v.length % 4 < 3) : parB (v ++ [w]) = parB v * 64 + w := by
  have e1 : (v ++ [w]).getD (v.length + 1 - 1) 0 = w := gdE
  unfold parB
  rw [lenA]
  rcases (show v.length % 4 = 0 ∨ v.length % 4 = 1 ∨ v.length % 4 = 2 by omega) with q | q | q
  · rw [if_neg (by omega), if_pos (by omega), if_pos q, e1]; omega
  · rw [if_neg (by omega), if_neg (by omega), if_pos (by omega), if_neg (by omega), if_pos q, e1, show v.length + 1 - 2 = v.length - 1 from by omega, gdA (by omega)]
  · rw [if_neg (by omega), if_neg (by omega), if_neg (by omega), if_neg (by omega), if_neg (by omega), if_pos q, e1, show v.length + 1 - 3 = v.length - 2 from by omega, show v.length + 1 - 2 = v.length - 1 from by omega, gdA (by omega), gdA (by omega)]; omega
theorem parB_0 {v : List Nat} (h : v.length % 4 = 0) : parB v = 0 := if_pos h
theorem outB_app {v : List Nat} {w j : Nat} (h : j < 3 * (v.length / 4)) : outB (v ++ [w]) j = outB v j := by
  unfold outB
  rw [gdA (by omega), gdA (by omega), gdA (by omega), gdA (by omega)]
def relN (c : Nat → Nat) (n B hd : Nat) : Nat → Nat := fun j => if j < n then c j else B / 2 ^ (hd * 6 - 8 * (j - n + 1)) % 2 ^ 8
theorem rel4 {v : List Nat} (h64 : ∀ x ∈ v, x < 64) {w : Nat} (hw : w < 64) (h : v.length % 4 = 3) {j : Nat} (hj : j < 3 * (v.length / 4) + 3) : relN (outB v) (3 * (v.length / 4)) (parB v * 64 + w) 4 j = outB (v ++ [w]) j := by
  unfold relN
  split
  · rename_i q; exact (outB_app q).symm
  · rename_i q
    have a1 := gd64 h64 (v.length - 3); have a2 := gd64 h64 (v.length - 2); have a3 := gd64 h64 (v.length - 1)
    have e0 : (v ++ [w]).getD (v.length - 3) 0 = v.getD (v.length - 3) 0 := gdA (by omega)
    have e1 : (v ++ [w]).getD (v.length - 2) 0 = v.getD (v.length - 2) 0 := gdA (by omega)
    have e2 : (v ++ [w]).getD (v.length - 1) 0 = v.getD (v.length - 1) 0 := gdA (by omega)
    have e3 : (v ++ [w]).getD (v.length) 0 = w := gdE
    have hp : parB v = v.getD (v.length - 3) 0 * 4096 + v.getD (v.length - 2) 0 * 64 + v.getD (v.length - 1) 0 := by unfold parB; rw [if_neg (by omega), if_neg (by omega), if_neg (by omega)]
    unfold outB
    rcases (show j = 3 * (v.length / 4) ∨ j = 3 * (v.length / 4) + 1 ∨ j = 3 * (v.length / 4) + 2 by omega) with r | r | r
    · rw [if_pos (by omega), show 4 * 6 - 8 * (j - 3 * (v.length / 4) + 1) = 16 from by omega, show j / 3 * 4 = v.length - 3 from by omega, show v.length - 3 + 1 = v.length - 2 from by omega, e0, e1, hp]; omega
    · rw [if_neg (by omega), if_pos (by omega), show 4 * 6 - 8 * (j - 3 * (v.length / 4) + 1) = 8 from by omega, show j / 3 * 4 = v.length - 3 from by omega, show v.length - 3 + 1 = v.length - 2 from by omega, show v.length - 3 + 2 = v.length - 1 from by omega, e1, e2, hp]; omega
    · rw [if_neg (by omega), if_neg (by omega), show 4 * 6 - 8 * (j - 3 * (v.length / 4) + 1) = 0 from by omega, show j / 3 * 4 = v.length - 3 from by omega, show v.length - 3 + 2 = v.length - 1 from by omega, show v.length - 3 + 3 = v.length from by omega, e2, e3, hp]; omega
theorem rel_end {v : List Nat} (h64 : ∀ x ∈ v, x < 64) (h : ¬ v.length % 4 = 1) {j : Nat} (hj : j < v.length * 6 / 8) : relN (outB v) (3 * (v.length / 4)) (parB v) (v.length % 4) j = outB v j := by
  unfold relN
  split
  · rfl
  · rename_i q
    have a1 := gd64 h64 (v.length - 3); have a2 := gd64 h64 (v.length - 2); have a3 := gd64 h64 (v.length - 1)
    rcases (show v.length % 4 = 0 ∨ v.length % 4 = 2 ∨ v.length % 4 = 3 by omega) with c | c | c
    · omega
    · have hp : parB v = v.getD (v.length - 2) 0 * 64 + v.getD (v.length - 1) 0 := by unfold parB; rw [if_neg (by omega), if_neg (by omega), if_pos c]
      have r : j = 3 * (v.length / 4) := by omega
      unfold outB
      rw [if_pos (by omega), c, show 2 * 6 - 8 * (j - 3 * (v.length / 4) + 1) = 4 from by omega, show j / 3 * 4 = v.length - 2 from by omega, show v.length - 2 + 1 = v.length - 1 from by omega, hp]; omega
    · have hp : parB v = v.getD (v.length - 3) 0 * 4096 + v.getD (v.length - 2) 0 * 64 + v.getD (v.length - 1) 0 := by unfold parB; rw [if_neg (by omega), if_neg (by omega), if_neg (by omega)]
      unfold outB
      rcases (show j = 3 * (v.length / 4) ∨ j = 3 * (v.length / 4) + 1 by omega) with r | r
      · rw [if_pos (by omega), c, show 3 * 6 - 8 * (j - 3 * (v.length / 4) + 1) = 10 from by omega, show j / 3 * 4 = v.length - 3 from by omega, show v.length - 3 + 1 = v.length - 2 from by omega, hp]; omega
      · rw [if_neg (by omega), if_pos (by omega), c, show 3 * 6 - 8 * (j - 3 * (v.length / 4) + 1) = 2 from by omega, show j / 3 * 4 = v.length - 3 from by omega, show v.length - 3 + 1 = v.length - 2 from by omega, show v.length - 3 + 2 = v.length - 1 from by omega, hp]; omega
/-- the end of a row that is read, from its first = on, hd letters over -/
def ewB (k n : Nat) (b : Nat → Nat) (p hd : Nat) : Bool := decide (n ≤ p ∨ (¬ hd = 0 ∧ (∀ i, i < 4 - hd → atN n b (p + i) = 61) ∧ (∀ j, j < n → p + 4 - hd ≤ j → k = 2 ∧ isL k (b j) = false)))
def acP (k n : Nat) (b : Nat → Nat) (p : Nat) : Bool := decide (k = 2 ∨ (lwS k b p).length = p) && (decide (¬ (lwS k b p).length % 4 = 1) && ewB k n b p ((lwS k b p).length % 4))
/-- whether the reader takes a row -/
def acB (k n : Nat) (b : Nat → Nat) : Bool := acP k n b (fF n b)
/-- the worths of its letters; how many bytes they are -/
def lwF (k n : Nat) (b : Nat → Nat) : List Nat := lwS k b (fF n b)
def cnF (k n : Nat) (b : Nat → Nat) : Nat := (lwF k n b).length * 6 / 8
theorem fsN_gt {q : Nat → Bool} {n p : Nat} (hp : p < n) (h : ∀ j, j ≤ p → q j = false) : p < fsN q n := by
  rcases Nat.lt_or_ge p (fsN q n) with r | r
  · exact r
  · have h2 := fsN_yes q n (by omega)
    rw [h _ r] at h2; cases h2
theorem lwS_lt {k : Nat} {b : Nat → Nat} {p m : Nat} (hp : p < m) (h : isL k (b p) = false) : (lwS k b m).length < m := by
  induction m with
  | zero => omega
  | succ m ih =>
    have h1 := lwS_le k b m
    rcases Nat.lt_or_ge p m with r | r
    · have h2 := ih r
      cases e : isL k (b m) with
      | true => rw [lwS_y e, lenA]; omega
      | false => rw [lwS_n e]; omega
    · have e : p = m := by omega
      subst e
      rw [lwS_n h]; omega
theorem ac_no1 {k n : Nat} {b : Nat → Nat} {p : Nat} (hk : ¬ k = 2) (hp : p < n) (hq : ∀ j, j < p → eqB b j = false) (h61 : ¬ b p = 61) (hl : isL k (b p) = false) : acB k n b = false := by
  have h1 : p < fF n b := fsN_gt hp (fun j hj => by
    rcases Nat.lt_or_ge j p with r | r
    · exact hq j r
    · have e : j = p := by omega
      subst e; exact decide_eq_false h61)
  have h2 := lwS_lt h1 hl
  unfold acB acP
  rw [decide_eq_false (p := k = 2 ∨ (lwS k b (fF n b)).length = fF n b) (by omega)]; rfl
theorem ac_at {k n : Nat} {b : Nat → Nat} {p : Nat} (hp : fF n b = p) (hl : k = 2 ∨ (lwS k b p).length = p) (r : Bool) (h : (decide (¬ (lwS k b p).length % 4 = 1) && ewB k n b p ((lwS k b p).length % 4)) = r) : acB k n b = r := by
  unfold acB acP
  rw [hp, decide_eq_true hl, h]; rfl
