/-! shares: a division of small whole numbers is a number -/
section FPX
def fp_b (w p : Nat) : FP.Core.Fmt := ⟨w, p⟩
/-- what an encoding below the NaNs is of -/
def fp_ok (f : FP.Core.Fmt) : FP.Core.Datum → Prop
  | .nan => False
  | .inf _ => True
  | .fin _ c q => c < 2 * f.tails ∧ (q - f.qmin).toNat + 1 < f.exps - 1
theorem fp_bound {f : FP.Core.Fmt} (h0 : 0 < f.tails) (hq : (f.qmax - f.qmin).toNat + 1 < f.exps - 1) (s : Bool) {c : Nat} (q : Int) (hc : c < 2 * f.tails) : fp_ok f (FP.Core.bound f s c q) := by
  unfold FP.Core.bound
  split
  · rename_i h
    exact ⟨hc, by omega⟩
  · exact trivial
theorem fp_round {f : FP.Core.Fmt} (h0 : 0 < f.tails) (h2 : 2 ^ f.p = 2 * f.tails) (he : 2 < f.exps) (hq : (f.qmax - f.qmin).toNat + 1 < f.exps - 1) (s : Bool) (a b : Nat) (e : Int) : fp_ok f (FP.Core.roundRatio f s a b e) := by
  unfold FP.Core.roundRatio
  split
  · exact ⟨by omega, by omega⟩
  · unfold FP.Core.roundAt FP.Core.settle
    split
    · rename_i h
      exact fp_bound h0 hq s _ (by omega)
    · exact fp_bound h0 hq s _ (by omega)
theorem fp_enc {f : FP.Core.Fmt} {d : FP.Core.Datum} (h0 : 0 < f.tails) (h : fp_ok f d) (he : 2 < f.exps) : FP.Core.encode f d % (f.exps * f.tails) ≤ (f.exps - 1) * f.tails := by
  have key : ∀ (s : Bool) (e t : Nat), e < f.exps → t < f.tails → FP.Core.assemble f s e t % (f.exps * f.tails) = e * f.tails + t := by
    intro s e t h1 h3
    unfold FP.Core.assemble
    rw [show (s.toNat * f.exps + e) * f.tails + t = (e * f.tails + t) + (f.exps * f.tails) * s.toNat from by rw [Nat.add_mul, Nat.mul_assoc, Nat.mul_comm (f.exps * f.tails) s.toNat]; omega, Nat.add_mul_mod_self_left]
    refine Nat.mod_eq_of_lt ?_
    calc e * f.tails + t < e * f.tails + f.tails := by omega
      _ = (e + 1) * f.tails := (Nat.succ_mul _ _).symm
      _ ≤ f.exps * f.tails := Nat.mul_le_mul_right _ h1
  have bnd : ∀ (e t : Nat), e < f.exps - 1 → t < f.tails → e * f.tails + t ≤ (f.exps - 1) * f.tails := by
    intro e t h1 h3
    calc e * f.tails + t ≤ e * f.tails + f.tails := by omega
      _ = (e + 1) * f.tails := (Nat.succ_mul _ _).symm
      _ ≤ _ := Nat.mul_le_mul_right _ h1
  cases d with
  | nan => exact h.elim
  | inf s =>
    show FP.Core.assemble f s (f.exps - 1) 0 % _ ≤ _
    rw [key s _ _ (by omega) h0]; omega
  | fin s c q =>
    show (if c < f.tails then FP.Core.assemble f s 0 c else FP.Core.assemble f s ((q - f.qmin).toNat + 1) (c - f.tails)) % _ ≤ _
    have hh : c < 2 * f.tails ∧ (q - f.qmin).toNat + 1 < f.exps - 1 := h
    split
    · rename_i h1
      rw [key s _ _ (by omega) h1]; exact bnd _ _ (by omega) h1
    · rw [key s _ _ (by omega) (by omega)]; exact bnd _ _ hh.2 (by omega)
/-- an encoding that is no NaN, read -/
theorem fp_dec {f : FP.Core.Fmt} {n : Nat} (h0 : 0 < f.tails) (h : n % (f.exps * f.tails) ≤ (f.exps - 1) * f.tails) : FP.Core.decode f n ≠ .nan := by
  unfold FP.Core.decode
  split
  · rename_i he
    split
    · exact fun z => nomatch z
    · rename_i ht
      exfalso
      unfold FP.Core.fieldE at he
      unfold FP.Core.fieldT at ht
      have h1 : n % (f.exps * f.tails) = n % f.tails + f.tails * (n / f.tails % f.exps) := by
        rw [Nat.mul_comm f.exps f.tails, Nat.mod_mul]
      rw [h1, he, Nat.mul_comm f.tails] at h
      omega
  · split
    · exact fun z => nomatch z
    · exact fun z => nomatch z
theorem fp_32 : 0 < FP.Core.b32.tails ∧ 2 ^ FP.Core.b32.p = 2 * FP.Core.b32.tails ∧ 2 < FP.Core.b32.exps ∧ (FP.Core.b32.qmax - FP.Core.b32.qmin).toNat + 1 < FP.Core.b32.exps - 1 ∧ FP.Core.b32.exps * FP.Core.b32.tails = 2 ^ 31 ∧ (FP.Core.b32.exps - 1) * FP.Core.b32.tails = 2139095040 := by decide +kernel
theorem fp_64 : 0 < FP.Core.b64.tails ∧ 2 ^ FP.Core.b64.p = 2 * FP.Core.b64.tails ∧ 2 < FP.Core.b64.exps ∧ (FP.Core.b64.qmax - FP.Core.b64.qmin).toNat + 1 < FP.Core.b64.exps - 1 ∧ FP.Core.b64.exps * FP.Core.b64.tails = 2 ^ 63 ∧ (FP.Core.b64.exps - 1) * FP.Core.b64.tails = 9218868437227405312 := by decide +kernel
theorem fp_n32 {n : Nat} (h : n % 2 ^ 31 ≤ 2139095040) : vf_n32 (UInt32.ofNat n) := by
  show (UInt32.ofNat n &&& 0x7fffffff).toNat ≤ (0x7f800000 : UInt32).toNat
  rw [UInt32.toNat_and, UInt32.toNat_ofNat']
  show n % 2 ^ 32 &&& (2 ^ 31 - 1) ≤ 2139095040
  rw [Nat.and_two_pow_sub_one_eq_mod]
  omega
theorem fp_n64 {n : Nat} (h : n % 2 ^ 63 ≤ 9218868437227405312) : vf_n64 (UInt64.ofNat n) := by
  show (UInt64.ofNat n &&& 0x7fffffffffffffff).toNat ≤ (0x7ff0000000000000 : UInt64).toNat
  rw [UInt64.toNat_and, UInt64.toNat_ofNat']
  show n % 2 ^ 64 &&& (2 ^ 63 - 1) ≤ 9218868437227405312
  rw [Nat.and_two_pow_sub_one_eq_mod]
  omega
def fp_fin : FP.Core.Datum → Bool
  | .fin _ _ _ => true
  | _ => false
def fp_pos : FP.Core.Datum → Bool
  | .fin _ c _ => decide (¬ c = 0)
  | _ => false
theorem fp_i32 : ∀ n, n < 441 → fp_fin (FP.Core.decode FP.Core.b32 (FP.i2f (nI n)).toNat) = true ∧ (0 < n → fp_pos (FP.Core.decode FP.Core.b32 (FP.i2f (nI n)).toNat) = true) := by decide +kernel
theorem fp_i64 : ∀ n, n < 441 → fp_fin (FP.Core.decode FP.Core.b64 (FP.i2d (nI n)).toNat) = true ∧ (0 < n → fp_pos (FP.Core.decode FP.Core.b64 (FP.i2d (nI n)).toNat) = true) := by decide +kernel
theorem fp_quot {f : FP.Core.Fmt} (hf : ∀ s a b e, fp_ok f (FP.Core.roundRatio f s a b e)) {x y : FP.Core.Datum} (hx : fp_fin x = true) (hy : fp_pos y = true) : fp_ok f (FP.Core.quotient f x y) := by
  cases x with
  | nan => cases hx
  | inf s => cases hx
  | fin s c q =>
    cases y with
    | nan => cases hy
    | inf s => cases hy
    | fin t d r =>
      have hd : ¬ d = 0 := of_decide_eq_true hy
      show fp_ok f (if d = 0 then (if c = 0 then .nan else .inf (s != t)) else FP.Core.roundRatio f (s != t) c d (q - r))
      rw [if_neg hd]
      exact hf _ _ _ _
theorem fp_q32 {a b : Nat} (ha : a < 441) (hb : b < 441) (h0 : 0 < b) : FP.Core.div FP.Core.b32 (FP.i2f (nI a)).toNat (FP.i2f (nI b)).toNat % 2 ^ 31 ≤ 2139095040 := by
  have h := fp_enc fp_32.1 (fp_quot (f := FP.Core.b32) (fp_round fp_32.1 fp_32.2.1 fp_32.2.2.1 fp_32.2.2.2.1) (fp_i32 a ha).1 ((fp_i32 b hb).2 h0)) fp_32.2.2.1
  rw [fp_32.2.2.2.2.1, fp_32.2.2.2.2.2] at h
  exact h
theorem fp_q64 {a b : Nat} (ha : a < 441) (hb : b < 441) (h0 : 0 < b) : FP.Core.div FP.Core.b64 (FP.i2d (nI a)).toNat (FP.i2d (nI b)).toNat % 2 ^ 63 ≤ 9218868437227405312 := by
  have h := fp_enc fp_64.1 (fp_quot (f := FP.Core.b64) (fp_round fp_64.1 fp_64.2.1 fp_64.2.2.1 fp_64.2.2.2.1) (fp_i64 a ha).1 ((fp_i64 b hb).2 h0)) fp_64.2.2.1
  rw [fp_64.2.2.2.2.1, fp_64.2.2.2.2.2] at h
  exact h
/-- the share; what is longer -/
def shF (a b : Nat) : UInt32 := FP.fdiv (FP.i2f (nI a)) (FP.i2f (nI b))
def grD (a b : Nat) : UInt64 := FP.ddiv (FP.i2d (nI a)) (FP.i2d (nI b))
theorem shF_n {a b : Nat} (ha : a < 441) (hb : b < 441) (h0 : 0 < b) : vf_n32 (FP.fdiv (FP.i2f (nI a)) (FP.i2f (nI b))) := fp_n32 (fp_q32 ha hb h0)
theorem grD_n {a b : Nat} (ha : a < 441) (hb : b < 441) (h0 : 0 < b) : vf_n64 (FP.ddiv (FP.i2d (nI a)) (FP.i2d (nI b))) := fp_n64 (fp_q64 ha hb h0)
theorem fp_to32 {n : Nat} (h : n % 2 ^ 31 ≤ 2139095040) : FP.Core.decode FP.Core.b32 (UInt32.ofNat n).toNat ≠ .nan := by
  refine fp_dec fp_32.1 ?_
  rw [fp_32.2.2.2.2.1, fp_32.2.2.2.2.2, UInt32.toNat_ofNat']
  omega
theorem fp_to64 {n : Nat} (h : n % 2 ^ 63 ≤ 9218868437227405312) : FP.Core.decode FP.Core.b64 (UInt64.ofNat n).toNat ≠ .nan := by
  refine fp_dec fp_64.1 ?_
  rw [fp_64.2.2.2.2.1, fp_64.2.2.2.2.2, UInt64.toNat_ofNat']
  omega
theorem fp_f2d {x : UInt32} (h : FP.Core.decode FP.Core.b32 x.toNat ≠ .nan) : ∃ n : Nat, FP.f2d x = UInt64.ofNat n ∧ n % 2 ^ 63 ≤ 9218868437227405312 := by
  have h1 : FP.Core.fIsNaN x = false := decide_eq_false h
  refine ⟨FP.Core.convert FP.Core.b32 FP.Core.b64 x.toNat, ?_, ?_⟩
  · unfold FP.f2d
    rw [h1]; rfl
  · have h2 : fp_ok FP.Core.b64 (FP.Core.round FP.Core.b64 (FP.Core.decode FP.Core.b32 x.toNat)) := by
      cases e : FP.Core.decode FP.Core.b32 x.toNat with
      | nan => exact absurd e h
      | inf s => exact trivial
      | fin s c q => exact fp_round fp_64.1 fp_64.2.1 fp_64.2.2.1 fp_64.2.2.2.1 _ _ _ _
    have h3 := fp_enc fp_64.1 h2 fp_64.2.2.1
    rw [fp_64.2.2.2.2.1, fp_64.2.2.2.2.2] at h3
    exact h3
theorem fp_cmp (i : Int) : compare i i = .eq := by simp [compare, compareOfLessAndEq]
theorem fp_self {x : FP.Core.Datum} (h : x ≠ .nan) : FP.Core.order x x = some .eq := by
  cases x with
  | nan => exact absurd rfl h
  | inf s => exact congrArg some (fp_cmp _)
  | fin s c q => exact congrArg some (fp_cmp _)
theorem sh_d {a b : Nat} (ha : a < 441) (hb : b < 441) (h0 : 0 < b) : vf_n64 (FP.f2d (FP.fdiv (FP.i2f (nI a)) (FP.i2f (nI b)))) ∧ FP.dcmp (FP.f2d (FP.fdiv (FP.i2f (nI a)) (FP.i2f (nI b)))) (FP.f2d (FP.fdiv (FP.i2f (nI a)) (FP.i2f (nI b)))) = some .eq := by
  obtain ⟨n, e, hn⟩ := fp_f2d (fp_to32 (fp_q32 ha hb h0))
  have e : FP.f2d (FP.fdiv (FP.i2f (nI a)) (FP.i2f (nI b))) = UInt64.ofNat n := e
  rw [e]
  exact ⟨fp_n64 hn, fp_self (fp_to64 hn)⟩
theorem gr_d {a b : Nat} (ha : a < 441) (hb : b < 441) (h0 : 0 < b) : FP.dcmp (FP.ddiv (FP.i2d (nI a)) (FP.i2d (nI b))) (FP.ddiv (FP.i2d (nI a)) (FP.i2d (nI b))) = some .eq := fp_self (fp_to64 (fp_q64 ha hb h0))
end FPX
