/-! the writer: signs of a row, by places -/
def sgN (n fl : Nat) : Nat := if n % 3 = 0 then n / 3 * 4 else if fl = 0 then n / 3 * 4 + n % 3 + 1 else n / 3 * 4 + 4
def lnN (k n fl : Nat) : Nat := if k = 2 ∧ ¬ sgN n fl = 0 then sgN n fl + (sgN n fl - 1) / 76 * 2 else sgN n fl
theorem sgN_le {n fl : Nat} (h : n ≤ 320) : sgN n fl ≤ 428 := by unfold sgN; (repeat' split) <;> omega
theorem lnN_le {k n fl : Nat} (h : n ≤ 320) : lnN k n fl ≤ 438 := by have := sgN_le (fl := fl) h; unfold lnN; split <;> omega
theorem letN_lt {k w : Nat} (hw : w < 64) : letN k w < 128 := by
  have h1 : kS k < 128 := by unfold kS; split <;> omega
  have h2 : kL k < 128 := by unfold kL; split <;> omega
  unfold letN; (repeat' split) <;> omega
/-- the sign at an index -/
def sgA (k n : Nat) (b : Nat → Nat) (j : Nat) : Nat := if n ≤ j * 6 / 8 then 61 else letN k ((atN n b (j * 6 / 8) * 256 + atN n b (j * 6 / 8 + 1)) / 2 ^ (10 - j * 6 % 8) % 2 ^ 6)
theorem sgA_lt (k n : Nat) (b : Nat → Nat) (j : Nat) : sgA k n b j < 128 := by
  unfold sgA; split
  · omega
  · exact letN_lt (Nat.mod_lt _ (by decide))
/-- what is written at a place -/
def wrA (k n : Nat) (b : Nat → Nat) (p : Nat) : Nat := if k = 2 then (if p % 78 < 76 then sgA k n b (p / 78 * 76 + p % 78) else if p % 78 = 76 then 13 else 10) else sgA k n b p
theorem wrA_lt (k n : Nat) (b : Nat → Nat) (p : Nat) : wrA k n b p < 128 := by
  have h1 := sgA_lt k n b p
  have h2 := sgA_lt k n b (p / 78 * 76 + p % 78)
  unfold wrA; (repeat' split) <;> omega
theorem or8 {a c : Nat} (h : c < 256) : a * 2 ^ 8 ||| c = a * 256 + c := by
  rw [Nat.mul_comm a (2 ^ 8), ← Nat.two_pow_add_eq_or_of_lt (i := 8) (by omega) a]
theorem or6 {a c : Nat} (h : c < 64) : a * 2 ^ 6 ||| c = a * 64 + c := by
  rw [Nat.mul_comm a (2 ^ 6), ← Nat.two_pow_add_eq_or_of_lt (i := 6) (by omega) a]
/-! the teller -/
def duN (L : Nat) : Nat := if L % 4 = 2 then 2 else if L % 4 = 3 then 1 else 0
theorem duN_le (L : Nat) : duN L ≤ 2 := by unfold duN; (repeat' split) <;> omega
def wrgB (k L m : Nat) : Bool := decide (L % 4 = 1 ∨ (¬ m = 0 ∧ L % 4 = 0) ∨ (m = 1 ∧ duN L = 2) ∨ (¬ k = 2 ∧ duN L < m))
/-- behind the first =: whether a byte was passed over; whether nothing is told -/
def utB (k : Nat) (b : Nat → Nat) (f : Nat) : Nat → Bool × Bool
  | 0 => (false, false)
  | i + 1 => if b (f + 1 + i) = 61 then ((utB k b f i).1, (utB k b f i).2 || (utB k b f i).1) else (true, (utB k b f i).2 || (decide (¬ k = 2) || isL k (b (f + 1 + i))))
theorem utB_mono (k : Nat) (b : Nat → Nat) (f : Nat) {i j : Nat} (h : i ≤ j) (q : (utB k b f i).2 = true) : (utB k b f j).2 = true := by
  induction j with
  | zero => have e : i = 0 := by omega
            subst e; exact q
  | succ j ih =>
    rcases Nat.lt_or_ge i (j + 1) with r | r
    · have := ih (by omega)
      simp only [utB]; split <;> simp [this]
    · have e : i = j + 1 := by omega
      subst e; exact q
/-- the worth of the last letter ahead of a place -/
def lsW (k : Nat) (b : Nat → Nat) : Nat → Nat
  | 0 => 0
  | i + 1 => if isL k (b i) then wN k (b i) else lsW k b i
theorem lsW_lt (k : Nat) (b : Nat → Nat) : ∀ i, lsW k b i < 64
  | 0 => (by show 0 < 64; omega)
  | i + 1 => by
    have ih := lsW_lt k b i
    simp only [lsW]; split
    · rename_i h; exact of_decide_eq_true h
    · exact ih
def hbB (k : Nat) (b : Nat → Nat) (f L : Nat) : Bool := decide ((duN L = 2 ∧ ¬ lsW k b f % 2 ^ 4 = 0) ∨ (duN L = 1 ∧ ¬ lsW k b f % 2 ^ 2 = 0))
/-- the first =, the letters ahead of it, the signs = -/
def fF (n : Nat) (b : Nat → Nat) : Nat := fsN (eqB b) n
def lF (k n : Nat) (b : Nat → Nat) : Nat := ctN (ltB k b) (fF n b)
def mF (n : Nat) (b : Nat → Nat) : Nat := ctN (eqB b) n - ctN (eqB b) (fF n b)
theorem fF_le (n : Nat) (b : Nat → Nat) : fF n b ≤ n := fsN_le _ _
theorem lF_le (k n : Nat) (b : Nat → Nat) : lF k n b ≤ fF n b := ctN_le _ _
theorem mF_le (n : Nat) (b : Nat → Nat) : mF n b ≤ n := by have := ctN_le (eqB b) n; unfold mF; omega
def wroB (k n : Nat) (b : Nat → Nat) : Bool := decide (¬ k = 2 ∧ ¬ lF k n b = fF n b) || wrgB k (lF k n b) (mF n b)
def untB (k n : Nat) (b : Nat → Nat) : Bool := (utB k b (fF n b) (n - fF n b - 1)).2 || (decide (k = 2 ∧ duN (lF k n b) < mF n b) || hbB k b (fF n b) (lF k n b))
def tlI (k n : Nat) (b : Nat → Nat) : Int32 := if wroB k n b = true then -1 else if untB k n b = true then -2 else nI (lF k n b * 6 / 8)
/-- one below -/
def pd (j : Nat) : Int32 := nI j - nI 1
theorem pd_0 : pd 0 < 0 := by decide
theorem pd_s (j : Nat) : pd (j + 1) = nI j := by unfold pd; rw [pk_sub (by omega)]; rfl
theorem pd_inc (j : Nat) : nI j + Int32.ofInt (-1) = pd j := by
  unfold pd
  rw [Int32.sub_eq_add_neg]
  rfl
theorem pd_neg {j : Nat} (hj : j < 2 ^ 31) (h : pd j < 0) : j = 0 := by
  cases j with
  | zero => rfl
  | succ j => rw [pd_s] at h; exact absurd h (nI_pos (by omega))
theorem pd_pos {j : Nat} (h : ¬ pd j < 0) : 0 < j := by
  cases j with
  | zero => exact absurd pd_0 h
  | succ j => omega
theorem tl_w {k n : Nat} {b : Nat → Nat} (h : wroB k n b = true) : (-1 : Int32) = tlI k n b := (if_pos h).symm
theorem tl_u {k n : Nat} {b : Nat → Nat} (h : wroB k n b = false) (h2 : untB k n b = true) : (-2 : Int32) = tlI k n b := by unfold tlI; rw [if_neg (by rw [h]; decide), if_pos h2]
theorem tl_r {k n : Nat} {b : Nat → Nat} (h : wroB k n b = false) (h2 : untB k n b = false) : nI (lF k n b * 6 / 8) = tlI k n b := by unfold tlI; rw [if_neg (by rw [h]; decide), if_neg (by rw [h2]; decide)]
theorem unt_1 {k n : Nat} {b : Nat → Nat} (h : (utB k b (fF n b) (n - fF n b - 1)).2 = true) : untB k n b = true := by unfold untB; rw [h]; rfl
theorem unt_2 {k n : Nat} {b : Nat → Nat} (h : k = 2) (h2 : duN (lF k n b) < mF n b) : untB k n b = true := by unfold untB; rw [decide_eq_true (p := k = 2 ∧ duN (lF k n b) < mF n b) ⟨h, h2⟩, Bool.true_or, Bool.or_true]
theorem unt_3 {k n : Nat} {b : Nat → Nat} (h : hbB k b (fF n b) (lF k n b) = true) : untB k n b = true := by unfold untB; rw [h, Bool.or_true, Bool.or_true]
theorem unt_no {k n : Nat} {b : Nat → Nat} (h : (utB k b (fF n b) (n - fF n b - 1)).2 = false) (h2 : ¬ (k = 2 ∧ duN (lF k n b) < mF n b)) (h3 : hbB k b (fF n b) (lF k n b) = false) : untB k n b = false := by unfold untB; rw [h, h3, decide_eq_false h2]; rfl
theorem wro_1 {k n : Nat} {b : Nat → Nat} (h : ¬ k = 2) (h2 : ¬ lF k n b = fF n b) : wroB k n b = true := by unfold wroB; rw [decide_eq_true (p := ¬ k = 2 ∧ ¬ lF k n b = fF n b) ⟨h, h2⟩]; rfl
theorem wro_2 {k n : Nat} {b : Nat → Nat} (h : wrgB k (lF k n b) (mF n b) = true) : wroB k n b = true := by unfold wroB; rw [h, Bool.or_true]
theorem wro_no {k n : Nat} {b : Nat → Nat} (h : ¬ (¬ k = 2 ∧ ¬ lF k n b = fF n b)) (h2 : wrgB k (lF k n b) (mF n b) = false) : wroB k n b = false := by unfold wroB; rw [h2, decide_eq_false h]; rfl
