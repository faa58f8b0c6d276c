/-! rows: what writing one place does; the theorem's checks as statements on functions -/
theorem bI_z {b : Bool} : bI b = 0 ↔ b = false := by cases b <;> decide
theorem bI_nz {b : Bool} : ¬ bI b = 0 ↔ b = true := by cases b <;> decide
def upN (b : Nat → Nat) (i v : Nat) : Nat → Nat := fun j => if j = i then v else b j
theorem RB_upd {f : Nat → Int32} {n : Nat} {b : Nat → Nat} (h : RB f n b) (i : Nat) {v : Nat} (hv : v < 256) : RB (upd f i (nI v)) n (upN b i v) := by
  refine ⟨h.1, fun j hj => ?_⟩
  by_cases e : j = i
  · subst e
    exact ⟨by rw [pk_us]; simp [upN], by simp [upN, hv]⟩
  · rw [pk_un e]
    simp only [upN, if_neg e]
    exact h.2 j hj
theorem RB_app {f : Nat → Int32} {n : Nat} {b : Nat → Nat} (h : RB f n b) (hn : n < 440) {v : Nat} (hv : v < 256) : RB (upd f n (nI v)) (n + 1) (upN b n v) := by
  refine ⟨hn, fun j hj => ?_⟩
  by_cases e : j = n
  · subst e
    exact ⟨by rw [pk_us]; simp [upN], by simp [upN, hv]⟩
  · rw [pk_un e]
    simp only [upN, if_neg e]
    exact h.2 j (by omega)
theorem RB_cong {f : Nat → Int32} {n : Nat} {b b' : Nat → Nat} (h : RB f n b) (e : ∀ j, j < n → b j = b' j) : RB f n b' := ⟨h.1, fun j hj => by rw [← e j hj]; exact h.2 j hj⟩
theorem RB_zero (f : Nat → Int32) (b : Nat → Nat) : RB f 0 b := ⟨by omega, fun j hj => absurd hj (Nat.not_lt_zero _)⟩
theorem RB_next {f : Nat → Int32} {n : Nat} {b : Nat → Nat} (h : RB f n b) (hn : n < 440) {v : Nat} (e : v = b n) (hv : v < 256) : RB (upd f n (nI v)) (n + 1) b := RB_cong (RB_app h hn hv) (fun j hj => by
  simp only [upN]; split
  · rename_i q; rw [q]; exact e
  · rfl)
theorem RB_less {f : Nat → Int32} {n : Nat} {b : Nat → Nat} (h : RB f n b) {a : Nat} (ha : a ≤ n) : RB f a b := ⟨Nat.le_trans ha h.1, fun j hj => h.2 j (by omega)⟩
/-- a byte between others -/
def insN (b : Nat → Nat) (p v : Nat) : Nat → Nat := fun j => if j < p then b j else if j = p then v else b (j - 1)
/-- without the places p to p + m -/
def delN (b : Nat → Nat) (p m : Nat) : Nat → Nat := fun j => if j < p then b j else b (j + m)
def eqB (b : Nat → Nat) : Nat → Bool := fun j => decide (b j = 61)
def ltB (k : Nat) (b : Nat → Nat) : Nat → Bool := fun j => isL k (b j)
/-- whether the first n1 places are alike -/
def bwB (n : Nat) (b : Nat → Nat) (n1 : Nat) (b1 : Nat → Nat) : Bool := decide (n1 ≤ n ∧ ∀ j, j < n1 → b j = b1 j)
def saB (n : Nat) (b : Nat → Nat) (n1 : Nat) (b1 : Nat → Nat) : Bool := decide (n = n1 ∧ ∀ j, j < n1 → b j = b1 j)
/-- the sum over a row -/
def adF (b : Nat → Nat) : Nat → Int64 → Int64
  | 0, r => r
  | i + 1, r => 31 * adF b i r + lN (b i)
/-- the sign of kind 1 in place of one of kind 0 -/
def othN (x : Nat) : Nat := if 62 ≤ wN 0 x ∧ wN 0 x < 64 then letN 1 (wN 0 x) else x
theorem wV_ge62 {k x : Nat} : nI 62 ≤ wV k x ↔ 62 ≤ wN k x ∧ wN k x < 64 := by
  by_cases h : wN k x < 64
  · rw [wV_pos h, nI_leI (by omega) (by omega)]
    omega
  · rw [wV_no h]
    constructor
    · intro q; exact absurd q (by decide)
    · intro q; omega
