/-! the reference's rows, and what it makes -/
theorem cl9 {n : Nat} (h : n + 1 < 2 ^ 31) (i : Int32) : (∃ k, k ≤ n ∧ i = nI k) ∨ ((i < 0 ∨ ¬ i < nI (n + 1)) ∧ (i < 0 ∨ nI n < i) ∧ (i < 0 ∨ ¬ i ≤ nI n)) := by
  by_cases h0 : i < 0
  · exact Or.inr ⟨Or.inl h0, Or.inl h0, Or.inl h0⟩
  · obtain ⟨k, hk, rfl⟩ := nI_of h0
    rcases Nat.lt_or_ge n k with q | q
    · exact Or.inr ⟨Or.inr (nI_nlt q hk), Or.inr (nI_lt q hk), Or.inr (nI_ge q hk)⟩
    · exact Or.inl ⟨k, q, rfl⟩
def RW (f : Nat → Int32) (i n : Nat) (b : Nat → Nat) : Prop := n ≤ 320 ∧ ∀ j, j < n → f (320 * i + j) = nI (b j) ∧ b j < 256
def MD (f : Nat → Int32) (m : Nat) (w : Nat → Nat) : Prop := m ≤ 600 ∧ ∀ j, j < m → f j = nI (w j) ∧ w j < 256
def MR (fl fb : Nat → Int32) (N : Nat → Nat) (B : Nat → Nat → Nat) : Prop := ∀ i, i < 6 → fl i = nI (N i) ∧ RW fb i (N i) (B i)
def upA {α : Type} (f : Nat → α) (i : Nat) (v : α) : Nat → α := fun j => if j = i then v else f j
theorem upA_s {α : Type} (f : Nat → α) (i : Nat) (v : α) : upA f i v i = v := if_pos rfl
theorem upA_n {α : Type} (f : Nat → α) {i j : Nat} (v : α) (h : ¬ j = i) : upA f i v j = f j := if_neg h
theorem MR_upd {fl fb fl' fb' : Nat → Int32} {N : Nat → Nat} {B : Nat → Nat → Nat} {i m : Nat} {w : Nat → Nat} (h : MR fl fb N B) (h1 : fl' i = nI m) (h2 : ∀ j, j < 6 → ¬ j = i → fl' j = fl j) (h3 : RW fb' i m w) (h4 : ∀ q, q < 320 * i ∨ 320 * i + 320 ≤ q → fb' q = fb q) : MR fl' fb' (upA N i m) (upA B i w) := by
  intro j hj
  by_cases e : j = i
  · subst e
    rw [upA_s, upA_s]
    exact ⟨h1, h3⟩
  · rw [upA_n _ _ e, upA_n _ _ e]
    have h0 := h j hj
    refine ⟨(h2 j hj e).trans h0.1, h0.2.1, fun x hx => ?_⟩
    have hx2 := h0.2.1
    rw [h4 _ (by omega)]
    exact h0.2.2 x hx
theorem MD_zero (f : Nat → Int32) (b : Nat → Nat) : MD f 0 b := ⟨by omega, fun j hj => absurd hj (Nat.not_lt_zero _)⟩
theorem MD_cong {f : Nat → Int32} {n : Nat} {b b' : Nat → Nat} (h : MD f n b) (e : ∀ j, j < n → b j = b' j) : MD f n b' := ⟨h.1, fun j hj => by rw [← e j hj]; exact h.2 j hj⟩
theorem MD_next {f : Nat → Int32} {n : Nat} {b : Nat → Nat} (h : MD f n b) (hn : n < 600) {v : Nat} (e : v = b n) (hv : v < 256) : MD (upd f n (nI v)) (n + 1) b := by
  refine ⟨hn, fun j hj => ?_⟩
  by_cases q : j = n
  · subst q
    exact ⟨by rw [pk_us, e], by rw [← e]; exact hv⟩
  · rw [pk_un q]
    exact h.2 j (by omega)
theorem RW_upd {f : Nat → Int32} {i n : Nat} {b : Nat → Nat} (h : RW f i n b) (p : Nat) {v : Nat} (hv : v < 256) : RW (upd f (320 * i + p) (nI v)) i n (upN b p v) := by
  refine ⟨h.1, fun j hj => ?_⟩
  by_cases e : j = p
  · subst e
    exact ⟨by rw [pk_us]; simp [upN], by simp [upN, hv]⟩
  · rw [pk_un (by omega)]
    simp only [upN, if_neg e]
    exact h.2 j hj
theorem RW_cong {f : Nat → Int32} {i n : Nat} {b b' : Nat → Nat} (h : RW f i n b) (e : ∀ j, j < n → b j = b' j) : RW f i n b' := ⟨h.1, fun j hj => by rw [← e j hj]; exact h.2 j hj⟩
theorem RW_next {f : Nat → Int32} {i n : Nat} {b : Nat → Nat} (h : RW f i n b) (hn : n < 320) {v : Nat} (e : v = b n) (hv : v < 256) : RW (upd f (320 * i + n) (nI v)) i (n + 1) b := by
  refine ⟨hn, fun j hj => ?_⟩
  by_cases q : j = n
  · subst q
    exact ⟨by rw [pk_us, e], by rw [← e]; exact hv⟩
  · rw [pk_un (by omega)]
    exact h.2 j (by omega)
theorem RW_less {f : Nat → Int32} {i n : Nat} {b : Nat → Nat} (h : RW f i n b) {a : Nat} (ha : a ≤ n) : RW f i a b := ⟨Nat.le_trans ha h.1, fun j hj => h.2 j (by omega)⟩
/-- a letter's worth, found by trying the first j ones -/
def wuN (k x j : Nat) : Int32 := if wN k x < j then nI (wN k x) else -1
theorem wu_0 (k x : Nat) : (-1 : Int32) = wuN k x 0 := (if_neg (by omega)).symm
theorem wu_64 (k x : Nat) : wuN k x 64 = wV k x := rfl
theorem let_inv : ∀ k, k < 3 → ∀ x, x < 256 → wN k x < 64 → letN k (wN k x) = x := by decide +kernel
theorem wu_y {k x j : Nat} (hk : k < 3) (hj : j < 64) (h : letN k j = x) : nI j = wuN k x (j + 1) := by
  have e : wN k x = j := by rw [← h]; exact (wl_all k hk j hj).1
  unfold wuN
  rw [if_pos (by omega), e]
theorem wu_n {k x j : Nat} (hk : k < 3) (hx : x < 256) (hj : j < 64) (h : ¬ letN k j = x) : wuN k x j = wuN k x (j + 1) := by
  have e : ¬ wN k x = j := fun z => h (by rw [← z]; exact let_inv k hk x hx (by omega))
  unfold wuN
  by_cases q : wN k x < j
  · rw [if_pos q, if_pos (by omega)]
  · rw [if_neg q, if_neg (by omega)]
theorem bI_or (a b : Bool) : bI a ||| bI b = bI (a || b) := by cases a <;> cases b <;> decide
theorem bI_and (a b : Bool) : bI a &&& bI b = bI (a && b) := by cases a <;> cases b <;> decide
/-- behind the first =, from it on -/
def utC (k : Nat) (b : Nat → Nat) (f p : Nat) : Bool × Bool := if p ≤ f then (false, false) else utB k b f (p - f - 1)
theorem utC_0 (k : Nat) (b : Nat → Nat) (f : Nat) : utC k b f f = (false, false) := if_pos (Nat.le_refl _)
theorem utC_y {k f p : Nat} {b : Nat → Nat} (hp : f ≤ p) (h : b p = 61) : utC k b f (p + 1) = ((utC k b f p).1, (utC k b f p).2 || (utC k b f p).1) := by
  unfold utC
  rw [if_neg (by omega)]
  rcases Nat.lt_or_ge f p with q | q
  · rw [if_neg (by omega), show p + 1 - f - 1 = (p - f - 1) + 1 from by omega]
    simp only [utB]
    rw [show f + 1 + (p - f - 1) = p from by omega, if_pos h]
  · rw [if_pos q, show p + 1 - f - 1 = 0 from by omega]; rfl
theorem utC_n {k f p : Nat} {b : Nat → Nat} (hp : f < p) (h : ¬ b p = 61) : utC k b f (p + 1) = (true, (utC k b f p).2 || (decide (¬ k = 2) || isL k (b p))) := by
  unfold utC
  rw [if_neg (by omega), if_neg (by omega), show p + 1 - f - 1 = (p - f - 1) + 1 from by omega]
  simp only [utB]
  rw [show f + 1 + (p - f - 1) = p from by omega, if_neg h]
theorem utC_e {k f n : Nat} {b : Nat → Nat} (hn : f ≤ n) : utC k b f n = utB k b f (n - f - 1) := by
  unfold utC
  split
  · rw [show n - f - 1 = 0 from by omega]; rfl
  · rfl
/-! reading, letter by letter -/
def rdI (v : List Nat) (B : Nat) : Prop := B < 65536 ∧ (v.length % 4 = 1 → B % 64 = v.getD (v.length - 1) 0) ∧ (v.length % 4 = 2 → B % 16 = v.getD (v.length - 1) 0 % 16) ∧ (v.length % 4 = 3 → B % 4 = v.getD (v.length - 1) 0 % 4)
theorem rdI_0 : rdI [] 0 := ⟨by decide, (fun h => by cases h), (fun h => by cases h), (fun h => by cases h)⟩
theorem rdI_app {v : List Nat} {B w : Nat} (hw : w < 64) : rdI (v ++ [w]) (B % 256 * 64 + w) := by
  have e : (v ++ [w]).getD ((v ++ [w]).length - 1) 0 = w := by rw [lenA]; exact gdE
  refine ⟨by omega, fun _ => ?_, fun _ => ?_, fun _ => ?_⟩ <;> rw [e] <;> omega
theorem rd_byte {v : List Nat} {B w : Nat} (h64 : ∀ x ∈ v, x < 64) (h : rdI v B) (hw : w < 64) (hv : ¬ v.length % 4 = 0) : (B % 256 * 64 + w) / 2 ^ (v.length * 6 % 8 + 6 - 8) % 2 ^ 8 = outB (v ++ [w]) (v.length * 6 / 8) := by
  have e1 : (v ++ [w]).getD (v.length - 1) 0 = v.getD (v.length - 1) 0 := gdA (by omega)
  have e2 : (v ++ [w]).getD v.length 0 = w := gdE
  have hl := gd64 h64 (v.length - 1)
  obtain ⟨h0, h1, h2, h3⟩ := h
  unfold outB
  rcases (show v.length % 4 = 1 ∨ v.length % 4 = 2 ∨ v.length % 4 = 3 by omega) with q | q | q
  · have h1 := h1 q
    rw [if_pos (by omega), show v.length * 6 / 8 / 3 * 4 = v.length - 1 from by omega, show v.length - 1 + 1 = v.length from by omega, e1, e2, show v.length * 6 % 8 + 6 - 8 = 4 from by omega]
    omega
  · have h2 := h2 q
    rw [if_neg (by omega), if_pos (by omega), show v.length * 6 / 8 / 3 * 4 + 1 = v.length - 1 from by omega, show v.length * 6 / 8 / 3 * 4 + 2 = v.length from by omega, e1, e2, show v.length * 6 % 8 + 6 - 8 = 2 from by omega]
    omega
  · have h3 := h3 q
    rw [if_neg (by omega), if_neg (by omega), show v.length * 6 / 8 / 3 * 4 + 2 = v.length - 1 from by omega, show v.length * 6 / 8 / 3 * 4 + 3 = v.length from by omega, e1, e2, show v.length * 6 % 8 + 6 - 8 = 0 from by omega]
    omega
theorem out_app {v : List Nat} {w j : Nat} (h : j < v.length * 6 / 8) : outB (v ++ [w]) j = outB v j := by
  unfold outB
  rcases (show j % 3 = 0 ∨ j % 3 = 1 ∨ j % 3 = 2 by omega) with q | q | q
  · rw [if_pos q, if_pos q, gdA (by omega), gdA (by omega)]
  · rw [if_neg (by omega), if_pos q, if_neg (by omega), if_pos q, gdA (by omega), gdA (by omega)]
  · rw [if_neg (by omega), if_neg (by omega), if_neg (by omega), if_neg (by omega), gdA (by omega), gdA (by omega)]
theorem out_pre {k : Nat} {b : Nat → Nat} {p p' j : Nat} (hp : p ≤ p') (h : j < (lwS k b p).length * 6 / 8) : outB (lwS k b p') j = outB (lwS k b p) j := by
  induction p' with
  | zero => have e : p = 0 := by omega
            subst e; rfl
  | succ q ih =>
    rcases Nat.lt_or_ge p (q + 1) with r | r
    · have ih := ih (by omega)
      have hm : (lwS k b p).length ≤ (lwS k b q).length := by rw [lwS_len, lwS_len]; exact ctN_mono _ (by omega)
      cases e : isL k (b q) with
      | true => rw [lwS_y e, out_app (by omega), ih]
      | false => rw [lwS_n e, ih]
    · have e : p = q + 1 := by omega
      subst e; rfl
theorem isL_61 : ∀ k, k < 3 → isL k 61 = false := by decide +kernel
/-- in a row that is right there is no letter behind the first = -/
theorem lw_right {k n : Nat} {b : Nat → Nat} (hk : k < 3) (h2 : untB k n b = false) : ∀ p, fF n b ≤ p → p ≤ n → lwS k b p = lwF k n b := by
  have hut : (utB k b (fF n b) (n - fF n b - 1)).2 = false := by
    unfold untB at h2
    simp only [Bool.or_eq_false_iff] at h2
    exact h2.1
  obtain ⟨-, t2, -⟩ := ut_no k b (fF n b) _ hut
  intro p
  induction p with
  | zero => intro h1 h3
            have e : fF n b = 0 := by omega
            unfold lwF; rw [e]
  | succ p ih =>
    intro h1 h3
    rcases Nat.lt_or_ge p (fF n b) with q | q
    · have e : fF n b = p + 1 := by omega
      unfold lwF; rw [e]
    · rw [← ih q (by omega)]
      refine lwS_n ?_
      by_cases e61 : b p = 61
      · rw [e61]; exact isL_61 k hk
      · have hne : ¬ fF n b = p := fun z => by
          have h61 : b (fF n b) = 61 := of_decide_eq_true (fsN_yes (eqB b) n (by show fF n b < n; omega))
          rw [z] at h61; exact e61 h61
        have := (t2 (p - fF n b - 1) (by omega) (by rwa [show fF n b + 1 + (p - fF n b - 1) = p from by omega])).2
        rwa [show fF n b + 1 + (p - fF n b - 1) = p from by omega] at this
theorem rd_le {k n : Nat} {b : Nat → Nat} (hk : k < 3) (h2 : untB k n b = false) {p : Nat} (hp : p ≤ n) : (lwS k b p).length ≤ lF k n b := by
  rcases Nat.lt_or_ge p (fF n b) with q | q
  · rw [lwS_len]; exact ctN_mono _ (by omega)
  · rw [lw_right hk h2 p q hp, lwF, lwS_lF]; exact Nat.le_refl _
theorem rd_end {k n : Nat} {b : Nat → Nat} (hk : k < 3) (h2 : untB k n b = false) {p : Nat} (hp : p ≤ n) (he : p = n ∨ lF k n b * 6 / 8 ≤ (lwS k b p).length * 6 / 8) : (lwS k b p).length * 6 / 8 = lF k n b * 6 / 8 ∧ ∀ j, j < lF k n b * 6 / 8 → outB (lwS k b p) j = outB (lwF k n b) j := by
  have hle := rd_le hk h2 hp
  have hq : (lwS k b p).length * 6 / 8 = lF k n b * 6 / 8 := by
    rcases he with he | he
    · subst he
      rw [lw_right hk h2 p (fF_le _ _) (Nat.le_refl _), lwF, lwS_lF]
    · omega
  refine ⟨hq, fun j hj => ?_⟩
  rcases Nat.lt_or_ge p (fF n b) with q | q
  · exact (out_pre (Nat.le_of_lt q) (by rw [hq]; exact hj)).symm
  · rw [lw_right hk h2 p q hp]
/-! writing, sign by sign -/
def enN (fl h k : Nat) : Nat := if fl = 1 then k else if k ≤ h + 1 then k else h + 1
theorem lnS_brk {n s : Nat} {b : Nat → Nat} (h0 : 0 < s) (h : s % 76 = 0) : wrA 2 n b (lnS 2 s) = 13 ∧ wrA 2 n b (lnS 2 s + 1) = 10 ∧ lnS 2 (s + 1) = lnS 2 s + 3 ∧ (lnS 2 s + 2) % 78 < 76 ∧ ixN 2 (lnS 2 s + 2) = s := by
  have e : lnS 2 s = s / 76 * 78 - 2 := by unfold lnS; rw [if_pos ⟨rfl, by omega⟩]; omega
  have e2 : lnS 2 (s + 1) = s / 76 * 78 + 1 := by unfold lnS; rw [if_pos ⟨rfl, by omega⟩]; omega
  rw [e, e2]
  refine ⟨?_, ?_, by omega, by omega, ?_⟩
  · unfold wrA; rw [if_pos rfl, if_neg (by omega), if_pos (by omega)]
  · unfold wrA; rw [if_pos rfl, if_neg (by omega), if_neg (by omega)]
  · unfold ixN; rw [if_pos rfl, if_pos (by omega)]; omega
theorem lnS_on {k s : Nat} (h : ¬ (k = 2 ∧ 0 < s ∧ s % 76 = 0)) : (k = 2 → lnS k s % 78 < 76) ∧ lnS k (s + 1) = lnS k s + 1 := by
  by_cases e : k = 2
  · have e1 : lnS k (s + 1) = s + 1 + (s + 1 - 1) / 76 * 2 := if_pos ⟨e, by omega⟩
    by_cases e0 : s = 0
    · have e2 : lnS k s = s := if_neg (fun z => z.2 e0)
      rw [e1, e2]
      exact ⟨fun _ => by omega, by omega⟩
    · have e2 : lnS k s = s + (s - 1) / 76 * 2 := if_pos ⟨e, e0⟩
      have : ¬ s % 76 = 0 := fun z => h ⟨e, by omega, z⟩
      rw [e1, e2]
      exact ⟨fun _ => by omega, by omega⟩
  · have e1 : lnS k (s + 1) = s + 1 := if_neg (fun z => e z.1)
    have e2 : lnS k s = s := if_neg (fun z => e z.1)
    rw [e1, e2]
    exact ⟨fun z => absurd z e, rfl⟩
theorem lnS_ix {k s n : Nat} {b : Nat → Nat} (h : ¬ (k = 2 ∧ 0 < s ∧ s % 76 = 0)) : wrA k n b (lnS k s) = sgA k n b s := by
  rw [wrA_s (lnS_on h).1, ix_ln]
theorem lnS_ix2 {s n : Nat} {b : Nat → Nat} (h0 : 0 < s) (h : s % 76 = 0) : wrA 2 n b (lnS 2 s + 2) = sgA 2 n b s := by
  have q := lnS_brk (n := n) (b := b) h0 h
  rw [wrA_s (fun _ => q.2.2.2.1), q.2.2.2.2]
theorem lnS_le {k s : Nat} (h : s ≤ 428) : lnS k s ≤ 438 := by unfold lnS; split <;> omega
/-- a letter of the four -/
theorem sg_let {k n q d : Nat} {b : Nat → Nat} (hb : ∀ j, j < n → b j < 256) (hd : d < 4) (hq : 3 * q + d * 6 / 8 < n) : sgA k n b (4 * q + d) = letN k ((atN n b (3 * q) * 65536 + atN n b (3 * q + 1) * 256 + atN n b (3 * q + 2)) / 2 ^ (18 - 6 * d) % 2 ^ 6) := by
  have a := at_lt hb
  have a0 := a (3 * q); have a1 := a (3 * q + 1); have a2 := a (3 * q + 2)
  rw [sgA_y (by omega), show 4 * q + d = q * 4 + d from by omega]
  refine congrArg (letN k) ?_
  rcases (show d = 0 ∨ d = 1 ∨ d = 2 ∨ d = 3 by omega) with e | e | e | e <;> subst e
  · rw [show q * 4 + 0 = q * 4 from rfl, sx_0 (a _) (a _)]; omega
  · rw [sx_1 (a _) (a _)]; omega
  · rw [sx_2 (a _) (a _)]; omega
  · rw [sx_3 (a _) (a _)]; omega
theorem sg_min {q n fl : Nat} : 3 * q < n → sgN (min (3 * q) n) fl = 4 * q := by
  intro h
  rw [show min (3 * q) n = 3 * q from by omega]
  unfold sgN; rw [if_pos (by omega)]; omega
theorem sg_nxt {q n fl : Nat} (h : 3 * q < n) (hfl : fl < 2) : 4 * q + enN fl (min (n - 3 * q) 3) 4 = sgN (min (3 * (q + 1)) n) fl := by
  rcases Nat.lt_or_ge n (3 * (q + 1)) with r | r
  · rw [show min (n - 3 * q) 3 = n - 3 * q from by omega, show min (3 * (q + 1)) n = n from by omega]
    rcases (show fl = 0 ∨ fl = 1 by omega) with e | e <;> subst e
    · rw [sg_0, if_neg (by omega)]
      unfold enN
      rw [if_neg (by decide), if_neg (by omega)]; omega
    · rw [sg_1, if_neg (by omega)]
      unfold enN
      rw [if_pos rfl]; omega
  · rw [show min (n - 3 * q) 3 = 3 from by omega, show min (3 * (q + 1)) n = 3 * (q + 1) from by omega]
    rcases (show fl = 0 ∨ fl = 1 by omega) with e | e <;> subst e
    · rw [sg_0, if_pos (by omega)]
      unfold enN
      rw [if_neg (by decide), if_pos (by decide)]; omega
    · rw [sg_1, if_pos (by omega)]
      unfold enN
      rw [if_pos rfl]; omega
