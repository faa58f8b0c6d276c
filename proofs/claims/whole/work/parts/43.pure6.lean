/-! what is written, by places -/
theorem wl_all : ∀ k, k < 3 → ∀ w, w < 64 → wN k (letN k w) = w ∧ ¬ letN k w = 61 ∧ ¬ letN k w = 13 ∧ ¬ letN k w = 10 := by decide +kernel
/-- the six bits of a sign -/
def sxN (n : Nat) (b : Nat → Nat) (j : Nat) : Nat := (atN n b (j * 6 / 8) * 256 + atN n b (j * 6 / 8 + 1)) / 2 ^ (10 - j * 6 % 8) % 2 ^ 6
theorem sxN_lt (n : Nat) (b : Nat → Nat) (j : Nat) : sxN n b j < 64 := Nat.mod_lt _ (by decide)
theorem sgA_n {k n j : Nat} {b : Nat → Nat} (h : n ≤ j * 6 / 8) : sgA k n b j = 61 := if_pos h
theorem sgA_y {k n j : Nat} {b : Nat → Nat} (h : j * 6 / 8 < n) : sgA k n b j = letN k (sxN n b j) := if_neg (by omega)
theorem sgA_no {k n : Nat} (hk : k < 3) (b : Nat → Nat) (j : Nat) : ¬ (sgA k n b j = 13 ∨ sgA k n b j = 10) := by
  rcases Nat.lt_or_ge (j * 6 / 8) n with q | q
  · rw [sgA_y q]
    have h := wl_all k hk _ (sxN_lt n b j)
    exact fun z => z.elim h.2.2.1 h.2.2.2
  · rw [sgA_n q]; omega
/-- the index of the sign at a place -/
def ixN (k p : Nat) : Nat := if k = 2 then p / 78 * 76 + (if p % 78 < 76 then p % 78 else 76) else p
/-- the length of so many signs -/
def lnS (k S : Nat) : Nat := if k = 2 ∧ ¬ S = 0 then S + (S - 1) / 76 * 2 else S
theorem lnN_S (k n fl : Nat) : lnN k n fl = lnS k (sgN n fl) := rfl
theorem ix_0 (k : Nat) : ixN k 0 = 0 := by unfold ixN; split <;> rfl
theorem ix_s {k p : Nat} (h : k = 2 → p % 78 < 76) : ixN k (p + 1) = ixN k p + 1 := by
  unfold ixN
  by_cases e : k = 2
  · have h := h e
    rw [if_pos e, if_pos e, if_pos h]
    split <;> omega
  · rw [if_neg e, if_neg e]
theorem ix_e {p : Nat} (h : ¬ p % 78 < 76) : ixN 2 (p + 1) = ixN 2 p := by
  unfold ixN
  rw [if_pos rfl, if_pos rfl, if_neg h]
  split <;> omega
theorem wrA_s {k n p : Nat} {b : Nat → Nat} (h : k = 2 → p % 78 < 76) : wrA k n b p = sgA k n b (ixN k p) := by
  unfold wrA ixN
  by_cases e : k = 2
  · rw [if_pos e, if_pos e, if_pos (h e), if_pos (h e)]
  · rw [if_neg e, if_neg e]
theorem wrA_e {n p : Nat} {b : Nat → Nat} (h : ¬ p % 78 < 76) : wrA 2 n b p = 13 ∨ wrA 2 n b p = 10 := by
  unfold wrA
  rw [if_pos rfl, if_neg h]
  split
  · exact Or.inl rfl
  · exact Or.inr rfl
theorem lnS_to {k S p : Nat} (h : p < lnS k S) : ixN k p < S := by
  unfold lnS at h
  unfold ixN
  by_cases e : k = 2
  · rw [if_pos e]
    by_cases e2 : S = 0
    · rw [if_neg (fun z => z.2 e2)] at h; omega
    · rw [if_pos ⟨e, e2⟩] at h
      rcases Nat.lt_trichotomy (p / 78) ((S - 1) / 76) with q | q | q
      · split <;> omega
      · split <;> omega
      · omega
  · rw [if_neg e]
    rw [if_neg (fun z => e z.1)] at h
    exact h
theorem lnS_of {k S p : Nat} (h : k = 2 → p % 78 < 76) (hp : ixN k p < S) : p < lnS k S := by
  unfold ixN at hp
  unfold lnS
  by_cases e : k = 2
  · have h := h e
    rw [if_pos e, if_pos h] at hp
    rw [if_pos ⟨e, by omega⟩]
    rcases Nat.lt_trichotomy (p / 78) ((S - 1) / 76) with q | q | q <;> omega
  · rw [if_neg e] at hp
    rw [if_neg (fun z => e z.1)]
    exact hp
theorem ix_ln (k S : Nat) : ixN k (lnS k S) = S := by
  unfold ixN lnS
  by_cases e : k = 2
  · rw [if_pos e]
    by_cases e2 : S = 0
    · rw [if_neg (fun z => z.2 e2), e2]; rfl
    · rw [if_pos ⟨e, e2⟩]
      split <;> omega
  · rw [if_neg e, if_neg (fun z => e z.1)]
theorem sg0_lt {n j : Nat} : j < sgN n 0 ↔ j * 6 / 8 < n := by
  unfold sgN
  split
  · omega
  · rw [if_pos rfl]; omega
theorem sg_le (n : Nat) {fl : Nat} : sgN n 0 ≤ sgN n fl := by
  unfold sgN
  split
  · exact Nat.le_refl _
  · rw [if_pos rfl]; split <;> omega
theorem sg_1 (n : Nat) : sgN n 1 = if n % 3 = 0 then n / 3 * 4 else n / 3 * 4 + 4 := by
  unfold sgN
  split
  · rfl
  · exact if_neg (by decide)
theorem sg_0 (n : Nat) : sgN n 0 = if n % 3 = 0 then n / 3 * 4 else n / 3 * 4 + n % 3 + 1 := by
  unfold sgN
  split
  · rfl
  · exact if_pos rfl
/-- with filling: so many signs more, in the same line -/
theorem ln_more (k n : Nat) : lnN k n 1 = lnN k n 0 + (if n % 3 = 0 then 0 else 3 - n % 3) := by
  rw [lnN_S, lnN_S, sg_1, sg_0]
  by_cases h : n % 3 = 0
  · rw [if_pos h, if_pos h, if_pos h]; rfl
  · rw [if_neg h, if_neg h, if_neg h]
    unfold lnS
    by_cases e : k = 2
    · rw [if_pos ⟨e, by omega⟩, if_pos ⟨e, by omega⟩]; omega
    · rw [if_neg (fun z => e z.1), if_neg (fun z => e z.1)]; omega
theorem ln_fill {k n p : Nat} (h1 : lnN k n 0 ≤ p) (h2 : p < lnN k n 1) : (k = 2 → p % 78 < 76) ∧ n ≤ ixN k p * 6 / 8 := by
  have hm := ln_more k n
  have hc : k = 2 → p % 78 < 76 := by
    intro e
    have h0 : lnN k n 0 = lnS k (if n % 3 = 0 then n / 3 * 4 else n / 3 * 4 + n % 3 + 1) := by rw [lnN_S, sg_0]
    by_cases h : n % 3 = 0
    · rw [if_pos h] at hm; omega
    · rw [if_neg h] at h0 hm
      unfold lnS at h0
      rw [if_pos ⟨e, by omega⟩, show (n / 3 * 4 + n % 3 + 1 - 1) / 76 = n / 3 / 19 from by omega] at h0
      omega
  refine ⟨hc, ?_⟩
  rcases Nat.lt_or_ge (ixN k p * 6 / 8) n with q | q
  · have := lnS_of hc (sg0_lt.mpr q)
    rw [lnN_S] at h1; omega
  · exact q
theorem wrA_61 {k n p : Nat} {b : Nat → Nat} (h1 : lnN k n 0 ≤ p) (h2 : p < lnN k n 1) : wrA k n b p = 61 := by
  obtain ⟨h, q⟩ := ln_fill h1 h2
  rw [wrA_s h, sgA_n q]
/-- ahead of the filling: a letter with its six bits, or an end of a line -/
theorem wrA_in {k n p : Nat} {b : Nat → Nat} (h : p < lnN k n 0) : ((k = 2 → p % 78 < 76) ∧ wrA k n b p = letN k (sxN n b (ixN k p))) ∨ (k = 2 ∧ ¬ p % 78 < 76 ∧ (wrA k n b p = 13 ∨ wrA k n b p = 10)) := by
  by_cases hc : k = 2 → p % 78 < 76
  · refine Or.inl ⟨hc, ?_⟩
    rw [wrA_s hc, sgA_y (sg0_lt.mp (lnS_to h))]
  · have e : k = 2 := Decidable.byContradiction (fun z => hc (fun y => absurd y z))
    subst e
    have h2 : ¬ p % 78 < 76 := fun z => hc (fun _ => z)
    exact Or.inr ⟨rfl, h2, wrA_e h2⟩
theorem wrA_ne {k n p : Nat} (hk : k < 3) {b : Nat → Nat} (h : p < lnN k n 0) : ¬ wrA k n b p = 61 := by
  rcases wrA_in (b := b) h with ⟨-, q⟩ | ⟨-, -, q⟩
  · rw [q]; exact (wl_all k hk _ (sxN_lt _ _ _)).2.1
  · omega
theorem ln_le1 (k n : Nat) {fl : Nat} (hfl : fl < 2) : lnN k n 0 ≤ lnN k n fl ∧ lnN k n fl ≤ lnN k n 1 := by
  have h := ln_more k n
  rcases (show fl = 0 ∨ fl = 1 by omega) with e | e <;> subst e <;> omega
theorem fF_w {k n fl : Nat} (hk : k < 3) (hfl : fl < 2) (b : Nat → Nat) : fF (lnN k n fl) (wrA k n b) = lnN k n 0 := by
  have hl := ln_le1 k n hfl
  refine fsN_eq hl.1 (fun j hj => decide_eq_false (wrA_ne hk hj)) ?_
  rcases Nat.lt_or_ge (lnN k n 0) (lnN k n fl) with q | q
  · exact Or.inr (decide_eq_true (wrA_61 (Nat.le_refl _) (by omega)))
  · exact Or.inl (by omega)
theorem lw_w {k n : Nat} (hk : k < 3) (b : Nat → Nat) : ∀ p, p ≤ lnN k n 0 → lwS k (wrA k n b) p = (List.range (ixN k p)).map (sxN n b)
  | 0, _ => by rw [ix_0]; rfl
  | p + 1, h => by
    have ih := lw_w (n := n) hk b p (by omega)
    rcases wrA_in (b := b) (show p < lnN k n 0 by omega) with ⟨hc, q⟩ | ⟨e, hc, q⟩
    · have h2 := wl_all k hk _ (sxN_lt n b (ixN k p))
      have hL : isL k (wrA k n b p) = true := by rw [q]; exact decide_eq_true (by rw [h2.1]; exact sxN_lt _ _ _)
      rw [lwS_y hL, ih, ix_s hc, List.range_succ, List.map_append, q, h2.1]; rfl
    · subst e
      have hL : isL 2 (wrA 2 n b p) = false := by rcases q with q | q <;> rw [q] <;> decide +kernel
      rw [lwS_n hL, ih, ix_e hc]
theorem gdR {f : Nat → Nat} {S i : Nat} (h : i < S) : ((List.range S).map f).getD i 0 = f i := by
  rw [List.getD_eq_getElem?_getD, List.getElem?_map, List.getElem?_range h]; rfl
theorem sx_0 {n : Nat} {b : Nat → Nat} {q : Nat} (h : atN n b (3 * q) < 256) (h2 : atN n b (3 * q + 1) < 256) : sxN n b (q * 4) = atN n b (3 * q) / 4 := by
  unfold sxN
  rw [show q * 4 * 6 / 8 = 3 * q from by omega, show 10 - q * 4 * 6 % 8 = 10 from by omega]
  omega
theorem sx_1 {n : Nat} {b : Nat → Nat} {q : Nat} (h : atN n b (3 * q) < 256) (h2 : atN n b (3 * q + 1) < 256) : sxN n b (q * 4 + 1) = atN n b (3 * q) % 4 * 16 + atN n b (3 * q + 1) / 16 := by
  unfold sxN
  rw [show (q * 4 + 1) * 6 / 8 = 3 * q from by omega, show 10 - (q * 4 + 1) * 6 % 8 = 4 from by omega]
  omega
theorem sx_2 {n : Nat} {b : Nat → Nat} {q : Nat} (h : atN n b (3 * q + 1) < 256) (h2 : atN n b (3 * q + 2) < 256) : sxN n b (q * 4 + 2) = atN n b (3 * q + 1) % 16 * 4 + atN n b (3 * q + 2) / 64 := by
  unfold sxN
  rw [show (q * 4 + 2) * 6 / 8 = 3 * q + 1 from by omega, show 10 - (q * 4 + 2) * 6 % 8 = 6 from by omega, show 3 * q + 1 + 1 = 3 * q + 2 from rfl]
  omega
theorem sx_3 {n : Nat} {b : Nat → Nat} {q : Nat} (h : atN n b (3 * q + 2) < 256) (h2 : atN n b (3 * q + 3) < 256) : sxN n b (q * 4 + 3) = atN n b (3 * q + 2) % 64 := by
  unfold sxN
  rw [show (q * 4 + 3) * 6 / 8 = 3 * q + 2 from by omega, show 10 - (q * 4 + 3) * 6 % 8 = 8 from by omega, show 3 * q + 2 + 1 = 3 * q + 3 from rfl]
  omega
theorem at_lt {n : Nat} {b : Nat → Nat} (hb : ∀ j, j < n → b j < 256) (i : Nat) : atN n b i < 256 := by
  unfold atN; split
  · exact hb _ (by assumption)
  · omega
theorem out_w {n : Nat} {b : Nat → Nat} (hb : ∀ j, j < n → b j < 256) {j : Nat} (hj : j < n) : outB ((List.range (sgN n 0)).map (sxN n b)) j = b j := by
  have a := at_lt hb
  have hbj := hb j hj
  have hs : ∀ i, i * 6 / 8 < n → ((List.range (sgN n 0)).map (sxN n b)).getD i 0 = sxN n b i := fun i hi => gdR (sg0_lt.mpr hi)
  have e := atN_in (b := b) hj
  unfold outB
  rcases (show j = 3 * (j / 3) ∨ j = 3 * (j / 3) + 1 ∨ j = 3 * (j / 3) + 2 by omega) with q | q | q
  · rw [if_pos (by omega), hs _ (by omega), hs _ (by omega), sx_0 (a _) (a _), sx_1 (a _) (a _), ← q, e]
    have := a (j + 1); omega
  · rw [if_neg (by omega), if_pos (by omega), hs _ (by omega), hs _ (by omega), sx_1 (a _) (a _), sx_2 (a _) (a _), ← q, e]
    have h1 := a (3 * (j / 3)); have h2 := a (3 * (j / 3) + 2); omega
  · rw [if_neg (by omega), if_neg (by omega), hs _ (by omega), hs _ (by omega), sx_2 (a _) (a _), sx_3 (a _) (a _), ← q, e]
    have h1 := a (3 * (j / 3) + 1); omega
theorem lwF_w {k n fl : Nat} (hk : k < 3) (hfl : fl < 2) (b : Nat → Nat) : lwF k (lnN k n fl) (wrA k n b) = (List.range (sgN n 0)).map (sxN n b) := by
  unfold lwF
  rw [fF_w hk hfl, lw_w hk b _ (Nat.le_refl _), lnN_S, ix_ln]
theorem lwF_len {k n fl : Nat} (hk : k < 3) (hfl : fl < 2) (b : Nat → Nat) : (lwS k (wrA k n b) (lnN k n 0)).length = sgN n 0 := by
  rw [lw_w hk b _ (Nat.le_refl _), lnN_S, ix_ln, List.length_map, List.length_range]
theorem cn_w {k n fl : Nat} (hk : k < 3) (hfl : fl < 2) (b : Nat → Nat) : cnF k (lnN k n fl) (wrA k n b) = n := by
  unfold cnF
  rw [lwF_w hk hfl, List.length_map, List.length_range, sg_0]
  split <;> omega
/-- what is written is read -/
theorem ac_w {k n fl : Nat} (hk : k < 3) (hfl : fl < 2) (b : Nat → Nat) : acB k (lnN k n fl) (wrA k n b) = true := by
  have hL := lwF_len (n := n) hk hfl b
  have hl := ln_le1 k n hfl
  have hm := ln_more k n
  have h0 := sg_0 n
  refine ac_at (fF_w hk hfl b) ?_ _ ?_
  · by_cases e : k = 2
    · exact Or.inl e
    · refine Or.inr ?_
      rw [hL, lnN_S]; unfold lnS; rw [if_neg (fun z => e z.1)]
  · rw [hL]
    have h1 : ¬ sgN n 0 % 4 = 1 := by rw [h0]; split <;> omega
    rw [decide_eq_true h1]
    show ewB k (lnN k n fl) (wrA k n b) (lnN k n 0) (sgN n 0 % 4) = true
    unfold ewB
    refine decide_eq_true ?_
    rcases Nat.lt_or_ge (lnN k n 0) (lnN k n fl) with q | q
    · refine Or.inr ?_
      have e : fl = 1 := by
        rcases (show fl = 0 ∨ fl = 1 by omega) with e | e
        · subst e; omega
        · exact e
      subst e
      by_cases h3 : n % 3 = 0
      · rw [if_pos h3] at hm; omega
      · rw [if_neg h3] at hm h0
        refine ⟨by omega, fun i hi => ?_, fun j hj hj2 => by omega⟩
        rw [atN_in (by omega), wrA_61 (by omega) (by omega)]
    · exact Or.inl q
theorem ctN_all {p : Nat → Bool} {a c : Nat} (h : a ≤ c) (hp : ∀ j, a ≤ j → j < c → p j = true) : ctN p c = ctN p a + (c - a) := by
  induction c with
  | zero => have e : a = 0 := by omega
            subst e; rfl
  | succ c ih =>
    rcases Nat.lt_or_ge a (c + 1) with q | q
    · rw [ctN_t (hp c (by omega) (by omega)), ih (by omega) (fun j h1 h2 => hp j h1 (by omega))]; omega
    · have e : a = c + 1 := by omega
      subst e; omega
theorem ctN_none {p : Nat → Bool} {a c : Nat} (h : a ≤ c) (hp : ∀ j, a ≤ j → j < c → p j = false) : ctN p c = ctN p a := by
  induction c with
  | zero => have e : a = 0 := by omega
            subst e; rfl
  | succ c ih =>
    rcases Nat.lt_or_ge a (c + 1) with q | q
    · rw [ctN_f (hp c (by omega) (by omega)), ih (by omega) (fun j h1 h2 => hp j h1 (by omega))]
    · have e : a = c + 1 := by omega
      subst e; rfl
/-- alike but for filling -/
theorem bf_w (k n : Nat) (b : Nat → Nat) : lnN k n 0 ≤ lnN k n 1 ∧ (∀ j, j < lnN k n 0 → wrA k n b j = wrA k n b j) ∧ ctN (eqB (wrA k n b)) (lnN k n 1) - ctN (eqB (wrA k n b)) (lnN k n 0) = lnN k n 1 - lnN k n 0 := by
  have hl := (ln_le1 k n (fl := 1) (by decide)).1
  refine ⟨hl, fun _ _ => rfl, ?_⟩
  rw [ctN_all (p := eqB (wrA k n b)) hl (fun j h1 h2 => decide_eq_true (wrA_61 h1 h2))]
  omega
theorem let_02 (w : Nat) : letN 2 w = letN 0 w := rfl
theorem sgA_02 (n : Nat) (b : Nat → Nat) (j : Nat) : sgA 2 n b j = sgA 0 n b j := rfl
theorem oth_all : ∀ w, w < 64 → othN (letN 0 w) = letN 1 w := by decide +kernel
/-- the kinds 0 and 1 -/
theorem ol_w (n fl : Nat) (b : Nat → Nat) : lnN 1 n fl = lnN 0 n fl ∧ ∀ j, wrA 1 n b j = othN (wrA 0 n b j) := by
  refine ⟨rfl, fun j => ?_⟩
  rw [wrA_s (k := 1) (fun e => by omega), wrA_s (k := 0) (fun e => by omega)]
  show sgA 1 n b j = othN (sgA 0 n b j)
  rcases Nat.lt_or_ge (j * 6 / 8) n with q | q
  · rw [sgA_y q, sgA_y q, oth_all _ (sxN_lt _ _ _)]
  · rw [sgA_n q, sgA_n q]; decide +kernel
/-- the kinds 0 and 2 -/
theorem wl_w (n fl : Nat) (b : Nat → Nat) : ixN 2 0 = 0 ∧ ixN 2 (lnN 2 n fl) = lnN 0 n fl ∧ ∀ i, i < lnN 2 n fl → ((wrA 2 n b i = 13 ∨ wrA 2 n b i = 10) ∧ ixN 2 (i + 1) = ixN 2 i) ∨ (¬ (wrA 2 n b i = 13 ∨ wrA 2 n b i = 10) ∧ ixN 2 i < lnN 0 n fl ∧ wrA 0 n b (ixN 2 i) = wrA 2 n b i ∧ ixN 2 (i + 1) = ixN 2 i + 1) := by
  refine ⟨rfl, by rw [lnN_S, ix_ln]; rfl, fun i hi => ?_⟩
  by_cases h : i % 78 < 76
  · refine Or.inr ⟨?_, ?_, ?_, ix_s (fun _ => h)⟩
    · rw [wrA_s (fun _ => h)]; exact sgA_no (by decide) b _
    · exact lnS_to hi
    · rw [wrA_s (fun _ => h), wrA_s (k := 0) (fun e => by omega)]; rfl
  · exact Or.inl ⟨wrA_e h, ix_e h⟩
/-! what is told, and what is read -/
theorem ut_no (k : Nat) (b : Nat → Nat) (f : Nat) : ∀ i, (utB k b f i).2 = false → ((utB k b f i).1 = false → ∀ x, x < i → b (f + 1 + x) = 61) ∧ (∀ x, x < i → ¬ b (f + 1 + x) = 61 → k = 2 ∧ isL k (b (f + 1 + x)) = false) ∧ (∀ x y, x < y → y < i → ¬ b (f + 1 + x) = 61 → ¬ b (f + 1 + y) = 61)
  | 0, _ => ⟨fun _ x h => absurd h (Nat.not_lt_zero _), fun x h => absurd h (Nat.not_lt_zero _), fun x y _ h => absurd h (Nat.not_lt_zero _)⟩
  | i + 1, h => by
    have ih := ut_no k b f i
    simp only [utB] at h ⊢
    by_cases e : b (f + 1 + i) = 61
    · rw [if_pos e] at h ⊢
      simp only [Bool.or_eq_false_iff] at h
      obtain ⟨h1, h2⟩ := h
      obtain ⟨i1, i2, i3⟩ := ih h1
      refine ⟨fun _ x hx => ?_, fun x hx hn => ?_, fun x y hxy hy hn => ?_⟩
      · rcases Nat.lt_or_ge x i with r | r
        · exact i1 h2 x r
        · have e2 : x = i := by omega
          subst e2; exact e
      · rcases Nat.lt_or_ge x i with r | r
        · exact i2 x r hn
        · have e2 : x = i := by omega
          subst e2; exact absurd e hn
      · exact absurd (i1 h2 x (by omega)) hn
    · rw [if_neg e] at h ⊢
      simp only [Bool.or_eq_false_iff] at h
      obtain ⟨h1, h2, h3⟩ := h
      obtain ⟨i1, i2, i3⟩ := ih h1
      refine ⟨fun z => absurd (show true = false from z) (by decide), fun x hx hn => ?_, fun x y hxy hy hn => ?_⟩
      · rcases Nat.lt_or_ge x i with r | r
        · exact i2 x r hn
        · have e2 : x = i := by omega
          subst e2
          exact ⟨Decidable.not_not.mp (of_decide_eq_false h2), h3⟩
      · rcases Nat.lt_or_ge y i with r | r
        · exact i3 x y hxy r hn
        · have e2 : y = i := by omega
          subst e2; exact e
theorem ct_pos {p : Nat → Bool} {a c : Nat} (h : a ≤ c) (hp : ¬ ctN p c = ctN p a) : ∃ j, a ≤ j ∧ j < c ∧ p j = true := by
  induction c with
  | zero => have e : a = 0 := by omega
            subst e; exact absurd rfl hp
  | succ c ih =>
    rcases Nat.lt_or_ge a (c + 1) with q | q
    · cases e : p c with
      | true => exact ⟨c, by omega, by omega, e⟩
      | false =>
        rw [ctN_f e] at hp
        obtain ⟨j, h1, h2, h3⟩ := ih (by omega) hp
        exact ⟨j, h1, by omega, h3⟩
    · have e : a = c + 1 := by omega
      subst e; exact absurd rfl hp
/-- the count of = behind the first one, of places that all hold one -/
theorem m_ge {n : Nat} {b : Nat → Nat} {d : Nat} (h : fF n b + d ≤ n) (hp : ∀ i, i < d → b (fF n b + i) = 61) : d ≤ mF n b := by
  have h1 := ctN_all (p := eqB b) (a := fF n b) (c := fF n b + d) (by omega) (fun j h1 h2 => decide_eq_true (by
    have := hp (j - fF n b) (by omega)
    rwa [show fF n b + (j - fF n b) = j from by omega] at this))
  have h2 := ctN_mono (eqB b) h
  unfold mF; omega
theorem ew_no {k n : Nat} {b : Nat → Nat} (h : wrgB k (lF k n b) (mF n b) = true) : (decide (¬ lF k n b % 4 = 1) && ewB k n b (fF n b) (lF k n b % 4)) = false := by
  have hw := of_decide_eq_true h
  have hm := mF_le n b
  have hf := fF_le n b
  have hc := ctN_mono (eqB b) hf
  by_cases h1 : lF k n b % 4 = 1
  · rw [decide_eq_false (p := ¬ lF k n b % 4 = 1) (fun z => z h1)]; rfl
  · rw [decide_eq_true h1, Bool.true_and]
    unfold ewB
    refine decide_eq_false (fun q => ?_)
    have hm0 : n ≤ fF n b → mF n b = 0 := fun z => by
      have e : fF n b = n := by omega
      unfold mF; rw [e]; omega
    have hd : duN (lF k n b) = if lF k n b % 4 = 2 then 2 else if lF k n b % 4 = 3 then 1 else 0 := rfl
    rcases q with q | ⟨q1, q2, q3⟩
    · have := hm0 q
      rcases hw with w | w | w | w <;> omega
    · have hin : ∀ i, i < 4 - lF k n b % 4 → fF n b + i < n ∧ b (fF n b + i) = 61 := fun i hi => by
        have := q2 i hi
        rcases Nat.lt_or_ge (fF n b + i) n with r | r
        · rw [atN_in r] at this; exact ⟨r, this⟩
        · rw [atN_out (by omega)] at this; omega
      have hge : 4 - lF k n b % 4 ≤ mF n b := m_ge (by have := (hin (4 - lF k n b % 4 - 1) (by omega)).1; omega) (fun i hi => (hin i hi).2)
      have h4 : lF k n b % 4 = 2 ∨ lF k n b % 4 = 3 := by omega
      rcases hw with w | w | w | w
      · omega
      · omega
      · rw [hd] at w; rcases h4 with h4 | h4 <;> rw [h4] at w hge <;> simp at w <;> omega
      · have hn : n ≤ fF n b + 4 - lF k n b % 4 := by
          rcases Nat.lt_or_ge (fF n b + 4 - lF k n b % 4) n with r | r
          · exact absurd (q3 _ r (Nat.le_refl _)).1 w.1
          · exact r
        have hmn : mF n b ≤ n - fF n b := by
          unfold mF
          have := ctN_le (eqB b) n
          have h5 : ctN (eqB b) n ≤ ctN (eqB b) (fF n b) + (n - fF n b) := by
            have : ∀ d, ctN (eqB b) (fF n b + d) ≤ ctN (eqB b) (fF n b) + d := by
              intro d
              induction d with
              | zero => exact Nat.le_refl _
              | succ d ih => show ctN (eqB b) (fF n b + d) + _ ≤ _; split <;> omega
            have := this (n - fF n b)
            rwa [show fF n b + (n - fF n b) = n from by omega] at this
          omega
        have := w.2
        rw [hd] at this
        rcases h4 with h4 | h4 <;> rw [h4] at this hn <;> simp at this <;> omega
theorem lwS_lF (k n : Nat) (b : Nat → Nat) : (lwS k b (fF n b)).length = lF k n b := lwS_len _ _ _
/-- what is told as wrong is refused -/
theorem ac_no {k n : Nat} {b : Nat → Nat} (h : wroB k n b = true) : acB k n b = false := by
  unfold acB acP
  rw [lwS_lF]
  unfold wroB at h
  rw [Bool.or_eq_true] at h
  rcases h with h | h
  · have h := of_decide_eq_true h
    rw [decide_eq_false (p := k = 2 ∨ lF k n b = fF n b) (fun z => z.elim h.1 h.2)]; rfl
  · rw [ew_no h, Bool.and_false]
/-- what is told as right is read -/
theorem ac_yes {k n : Nat} {b : Nat → Nat} (h : wroB k n b = false) (h2 : untB k n b = false) : acB k n b = true := by
  unfold wroB wrgB at h
  simp only [Bool.or_eq_false_iff, decide_eq_false_iff_not] at h
  obtain ⟨w1, w2⟩ := h
  unfold untB at h2
  simp only [Bool.or_eq_false_iff, decide_eq_false_iff_not] at h2
  obtain ⟨u1, u2, u3⟩ := h2
  have hd : duN (lF k n b) = if lF k n b % 4 = 2 then 2 else if lF k n b % 4 = 3 then 1 else 0 := rfl
  have hf := fF_le n b
  have hk : k = 2 ∨ lF k n b = fF n b := by
    by_cases e : k = 2
    · exact Or.inl e
    · exact Or.inr (Decidable.not_not.mp (fun z => w1 ⟨e, z⟩))
  have h1 : ¬ lF k n b % 4 = 1 := fun z => w2 (Or.inl z)
  have hmd : mF n b ≤ duN (lF k n b) := by
    rcases Nat.lt_or_ge (duN (lF k n b)) (mF n b) with r | r
    · by_cases e : k = 2
      · exact absurd ⟨e, r⟩ u2
      · exact absurd (Or.inr (Or.inr (Or.inr ⟨e, r⟩))) w2
    · exact r
  unfold acB acP
  rw [lwS_lF, decide_eq_true hk, decide_eq_true h1, Bool.true_and, Bool.true_and]
  unfold ewB
  refine decide_eq_true ?_
  rcases Nat.lt_or_ge (fF n b) n with r | r
  · refine Or.inr ?_
    have h61 : b (fF n b) = 61 := of_decide_eq_true (fsN_yes (eqB b) n r)
    obtain ⟨t1, t2, t3⟩ := ut_no k b (fF n b) _ u1
    have hm1 : 1 ≤ mF n b := m_ge (d := 1) (by omega) (fun i hi => by rw [show fF n b + i = fF n b from by omega]; exact h61)
    have h0 : ¬ lF k n b % 4 = 0 := fun z => w2 (Or.inr (Or.inl ⟨by omega, z⟩))
    have hm12 : ¬ (mF n b = 1 ∧ duN (lF k n b) = 2) := fun z => w2 (Or.inr (Or.inr (Or.inl z)))
    have hm : mF n b = 4 - lF k n b % 4 := by
      rcases (show lF k n b % 4 = 2 ∨ lF k n b % 4 = 3 by omega) with q | q <;> rw [hd, q] at hmd hm12 <;> simp at hmd hm12 <;> omega
    -- the places of =
    have hrun : ∀ i, i < 4 - lF k n b % 4 → fF n b + i < n ∧ b (fF n b + i) = 61 := by
      intro i hi
      rcases (show i = 0 ∨ i = 1 by omega) with e | e
      · subst e; exact ⟨r, h61⟩
      · subst e
        -- there is a second one
        have hne : ¬ ctN (eqB b) n = ctN (eqB b) (fF n b + 1) := by
          intro z
          have h5 : ctN (eqB b) (fF n b + 1) = ctN (eqB b) (fF n b) + 1 := ctN_t (decide_eq_true h61)
          unfold mF at hm; omega
        obtain ⟨j, j1, j2, j3⟩ := ct_pos (by omega) hne
        have j3 := of_decide_eq_true j3
        refine ⟨by omega, ?_⟩
        rcases Nat.lt_or_ge (fF n b + 1) j with s | s
        · by_cases e : b (fF n b + 1) = 61
          · exact e
          · have := t3 0 (j - fF n b - 1) (by omega) (by omega) e
            rw [show fF n b + 1 + (j - fF n b - 1) = j from by omega] at this
            exact absurd j3 this
        · have e : j = fF n b + 1 := by omega
          rw [e] at j3; exact j3
    refine ⟨h0, fun i hi => by rw [atN_in (hrun i hi).1]; exact (hrun i hi).2, fun j hj hj2 => ?_⟩
    have hnj : ¬ b j = 61 := by
      intro z
      have h5 := ctN_all (p := eqB b) (a := fF n b) (c := fF n b + (4 - lF k n b % 4)) (by omega) (fun x x1 x2 => decide_eq_true (by
        have := (hrun (x - fF n b) (by omega)).2
        rwa [show fF n b + (x - fF n b) = x from by omega] at this))
      have h6 : ctN (eqB b) (j + 1) = ctN (eqB b) j + 1 := ctN_t (decide_eq_true z)
      have h7 := ctN_mono (eqB b) (show j + 1 ≤ n by omega)
      have h8 := ctN_mono (eqB b) (show fF n b + (4 - lF k n b % 4) ≤ j by omega)
      unfold mF at hm; omega
    have := t2 (j - fF n b - 1) (by omega) (by rwa [show fF n b + 1 + (j - fF n b - 1) = j from by omega])
    rwa [show fF n b + 1 + (j - fF n b - 1) = j from by omega] at this
  · exact Or.inl r
theorem cn_lF (k n : Nat) (b : Nat → Nat) : cnF k n b = lF k n b * 6 / 8 := by unfold cnF lwF; rw [lwS_lF]
