/-! the mathematics: letters, their worth, rows of bytes as functions -/
def letN (k w : Nat) : Nat := if w < 26 then 65 + w else if w < 52 then 97 + w - 26 else if w < 62 then 48 + w - 52 else if w = 62 then kS k else kL k
/-- what a sign is worth; 64: it is no letter -/
def wN (k x : Nat) : Nat := if 65 ≤ x ∧ x ≤ 90 then x - 65 else if 97 ≤ x ∧ x ≤ 122 then x - 97 + 26 else if 48 ≤ x ∧ x ≤ 57 then x - 48 + 52 else if x = kS k then 62 else if x = kL k then 63 else 64
def wV (k x : Nat) : Int32 := if wN k x < 64 then nI (wN k x) else -1
def isL (k x : Nat) : Bool := decide (wN k x < 64)
def bI (b : Bool) : Int32 := if b then nI 1 else nI 0
theorem bI_t {b : Bool} (h : b = true) : nI 1 = bI b := by rw [h]; rfl
theorem bI_f {b : Bool} (h : b = false) : nI 0 = bI b := by rw [h]; rfl
theorem wN_le (k x : Nat) : wN k x ≤ 64 := by unfold wN; split; · omega
                                              split; · omega
                                              split; · omega
                                              split; · omega
                                              split <;> omega
theorem wV_neg {k x : Nat} : wV k x < 0 ↔ ¬ wN k x < 64 := by
  unfold wV
  split
  · rename_i h
    exact ⟨fun q => absurd q (nI_pos (by omega)), fun q => absurd h q⟩
  · rename_i h
    exact ⟨fun _ => h, fun _ => by decide⟩
theorem wV_pos {k x : Nat} (h : wN k x < 64) : wV k x = nI (wN k x) := if_pos h
theorem wV_no {k x : Nat} (h : ¬ wN k x < 64) : wV k x = -1 := if_neg h
theorem wV_is {k x v : Nat} (h : wN k x = v) (hv : v < 64) : nI v = wV k x := by rw [wV_pos (by omega), h]
theorem wV_m1 {k x : Nat} (h : wN k x = 64) : (-1 : Int32) = wV k x := (wV_no (by omega)).symm
theorem kH_2 {k : Nat} : kH k = 0 ↔ ¬ k = 2 := by unfold kH; split <;> simp_all
theorem kH_lt (k : Nat) : kH k < 2 := by unfold kH; split <;> omega
theorem kS_lt (k : Nat) : kS k < 256 := by unfold kS; split <;> omega
theorem kL_lt (k : Nat) : kL k < 256 := by unfold kL; split <;> omega
/-- a row: f holds the bytes b, n of them -/
def RB (f : Nat → Int32) (n : Nat) (b : Nat → Nat) : Prop := n ≤ 440 ∧ ∀ j, j < n → f j = nI (b j) ∧ b j < 256
/-- a byte, or 0 behind the end -/
def atN (n : Nat) (b : Nat → Nat) (i : Nat) : Nat := if i < n then b i else 0
theorem atN_lt {f : Nat → Int32} {n : Nat} {b : Nat → Nat} (h : RB f n b) (i : Nat) : atN n b i < 256 := by
  unfold atN; split
  · exact (h.2 i (by assumption)).2
  · omega
theorem atN_in {n : Nat} {b : Nat → Nat} {i : Nat} (h : i < n) : atN n b i = b i := if_pos h
theorem atN_out {n : Nat} {b : Nat → Nat} {i : Nat} (h : ¬ i < n) : atN n b i = 0 := if_neg h
/-- how many of the first n have p -/
def ctN (p : Nat → Bool) : Nat → Nat
  | 0 => 0
  | n + 1 => ctN p n + (if p n then 1 else 0)
theorem ctN_t {p : Nat → Bool} {n : Nat} (h : p n = true) : ctN p (n + 1) = ctN p n + 1 := by simp [ctN, h]
theorem ctN_f {p : Nat → Bool} {n : Nat} (h : p n = false) : ctN p (n + 1) = ctN p n := by simp [ctN, h]
theorem ctN_le (p : Nat → Bool) : ∀ n, ctN p n ≤ n
  | 0 => Nat.le_refl _
  | n + 1 => by have := ctN_le p n; simp only [ctN]; split <;> omega
theorem ctN_mono (p : Nat → Bool) {a b : Nat} (h : a ≤ b) : ctN p a ≤ ctN p b := by
  induction b with
  | zero => have : a = 0 := by omega
            subst this; exact Nat.le_refl _
  | succ b ih =>
    rcases Nat.lt_or_ge a (b + 1) with q | q
    · have := ih (by omega); simp only [ctN]; omega
    · have : a = b + 1 := by omega
      subst this; exact Nat.le_refl _
theorem ctN_cong {p q : Nat → Bool} {n : Nat} (h : ∀ j, j < n → p j = q j) : ctN p n = ctN q n := by
  induction n with
  | zero => rfl
  | succ n ih => simp only [ctN]; rw [ih (fun j hj => h j (by omega)), h n (by omega)]
/-- the first place below n that has p, or n -/
def fsN (p : Nat → Bool) : Nat → Nat
  | 0 => 0
  | n + 1 => if fsN p n < n then fsN p n else if p n then n else n + 1
theorem fsN_le (p : Nat → Bool) : ∀ n, fsN p n ≤ n
  | 0 => Nat.le_refl _
  | n + 1 => by have := fsN_le p n; simp only [fsN]; split
                · omega
                · split <;> omega
theorem fsN_no (p : Nat → Bool) : ∀ n k, k < fsN p n → p k = false
  | 0, k, h => absurd h (Nat.not_lt_zero _)
  | n + 1, k, h => by
    have ih := fsN_no p n
    have hl := fsN_le p n
    simp only [fsN] at h
    split at h
    · exact ih k h
    · rename_i h1
      split at h
      · exact ih k (by omega)
      · rename_i h2
        rcases Nat.lt_or_ge k (fsN p n) with q | q
        · exact ih k q
        · have : k = n := by omega
          subst this; simpa using h2
theorem fsN_yes (p : Nat → Bool) : ∀ n, fsN p n < n → p (fsN p n) = true
  | 0, h => absurd h (Nat.not_lt_zero _)
  | n + 1, h => by
    have ih := fsN_yes p n
    simp only [fsN] at h ⊢
    split
    · rename_i h1; exact ih h1
    · rename_i h1
      rw [if_neg h1] at h
      split at h
      · rename_i h2; rw [if_pos h2]; exact h2
      · omega
theorem fsN_eq {p : Nat → Bool} {n i : Nat} (hi : i ≤ n) (h0 : ∀ k, k < i → p k = false) (h1 : i = n ∨ p i = true) : fsN p n = i := by
  have hl := fsN_le p n
  rcases Nat.lt_trichotomy (fsN p n) i with q | q | q
  · have := fsN_yes p n (by omega)
    rw [h0 _ q] at this; cases this
  · exact q
  · rcases h1 with h1 | h1
    · omega
    · rw [fsN_no p n i q] at h1; cases h1
