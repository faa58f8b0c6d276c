/-! one operation, both sides: for any numbers the face and the reference say the same -/
abbrev MSt := Nat × Int32 × (Nat → Int32) × (Nat → Int32) × (Nat → Int32) × (Nat → Int32)
def MW (T : Nat → ClassId) (b : Nat → Nat) (u : MSt) : va_W := [(b 0, .inr (3, [.ref (b 1), .ref (b 2), .ref (b 3), .int (nI u.1), .int u.2.1, .ref (b 4)])), (b 1, .inl (T 0, 1920, .inl u.2.2.1)), (b 2, .inl (T 0, 6, .inl u.2.2.2.1)), (b 3, .inl (T 0, 600, .inl u.2.2.2.2.1)), (b 4, .inl (T 0, 320, .inl u.2.2.2.2.2))]
def MC (l : Launch) (y : MethodName) (wy : List Cond) (rm : Room) (D : va_G) (T : Nat → ClassId) (g : Nat → Nat) (b : Nat → Nat) (v : MSt) (av : List Value) (r : Value) (c : Nat) (N' : Nat → Nat) (B' : Nat → Nat → Nat) : Prop :=
  ∀ sz : Nat, MU l y wy rm D T g av (MW T b v) sz (S := MSt) (fun _ => some r) (fun u => u.2.1 = nI c ∧ MR u.2.2.2.1 u.2.2.1 N' B') (MW T b) 0 0
section OPS
variable {l : Launch} {y : MethodName} {wy : List Cond} {rm : Room} {D : va_G} {T : Nat → ClassId} {g : Nat → Nat} {a b : Nat → Nat} {av : List Value} {c : Nat} {N' N'' : Nat → Nat} {B' B'' : Nat → Nat → Nat}
theorem MC_N {v : MSt} {r : Value} (h : MC l y wy rm D T g b v av r c N' B') (h1 : ∀ i, i < 6 → N'' i = N' i) (h2 : ∀ i, i < 6 → B'' i = B' i) : MC l y wy rm D T g b v av r c N'' B'' := fun sz => by
  have h := h sz
  unfold MU Met at h ⊢
  refine MetFree.mono h (fun _ _ z => z) (fun _ _ _ _ _ z => z) ?_
  rintro a st o t - ⟨⟨⟨u, e1, ⟨e2, e3⟩, e4⟩, e5⟩, e6⟩
  exact ⟨⟨⟨u, e1, ⟨e2, MR_N e3 h1 h2⟩, e4⟩, e5⟩, e6⟩
theorem HC_mono {u : LSt} {ov ov' : LSt → Prop} (h : HC l y wy D T g a u av c N' B' ov) (ho : ∀ u', ov u' → ov' u') : HC l y wy D T g a u av c N' B' ov' := fun sz => by
  have h := h sz
  unfold MUN Met at h ⊢
  refine MetFree.mono h (fun _ _ z => z) (fun _ _ _ _ _ z => z) ?_
  rintro a st o t - ⟨⟨⟨u, e1, ⟨e2, e3, e7⟩, e4⟩, e5⟩, e6⟩
  exact ⟨⟨⟨u, e1, ⟨e2, e3, ho u e7⟩, e4⟩, e5⟩, e6⟩
theorem upA_id {α : Type} (f : Nat → α) (i j : Nat) : f j = upA f i (f i) j := by
  by_cases e : j = i
  · rw [e, upA_s]
  · rw [upA_n _ _ e]
theorem gv_cases (gv : Nat → Int32) : ∀ m : Nat, (∃ v : Nat → Nat, ∀ j, j < m → gv j = nI (v j) ∧ v j < 256) ∨ ∃ (z0 : Nat) (v : Nat → Nat), z0 < m ∧ (∀ j, j < z0 → gv j = nI (v j) ∧ v j < 256) ∧ (gv z0 < 0 ∨ ¬ gv z0 ≤ nI 255) ∧ (gv z0 < 0 ∨ nI 255 < gv z0)
  | 0 => Or.inl ⟨fun _ => 0, fun j hj => absurd hj (Nat.not_lt_zero _)⟩
  | m + 1 => by
    rcases gv_cases gv m with ⟨v, hv⟩ | ⟨z0, v, h1, h2, h3, h4⟩
    · rcases cl9 (n := 255) (by decide) (gv m) with ⟨k, hk, e⟩ | ⟨-, n2, n3⟩
      · refine Or.inl ⟨fun j => if j = m then k else v j, fun j hj => ?_⟩
        by_cases q : j = m
        · subst q; simp only [if_true]; exact ⟨e, by omega⟩
        · simp only [q, if_false]; exact hv j (by omega)
      · exact Or.inr ⟨m, v, by omega, hv, n3, n2⟩
    · exact Or.inr ⟨z0, v, by omega, h2, h3, h4⟩
theorem byte_lt {F : Nat → Nat → Int32} {N : Nat → Nat} {fb : Nat → Int32} {k0 cnt : Nat} {Bw : Nat → Nat → Nat} (h : LI F N fb k0 cnt Bw) {i p : Nat} (hi : i < 6) (hp : p < N i) : Bw i p < 256 := ((h.1 i hi).1.2 p hp).2
theorem nlt_of {x y : Int32} (h : y < x) : ¬ x < y := fun z => Int32.lt_irrefl (Int32.lt_trans h z)
theorem saB_self (n : Nat) (b : Nat → Nat) : saB n b n b = true := by simp [saB]

set_option maxHeartbeats 4000000 in
theorem ex_add (l : Launch) (D : va_G) (T : Nat → ClassId) (g : Nat → Nat) (a b : Nat → Nat) (hl9 : l.stackTraces = false) {F : Nat → Nat → Int32} {N : Nat → Nat} {B0 hd : Int32} {tv : Nat} {ml : Int32} {cnt k0 : Nat} {fb : Nat → Int32} {o : Nat → Int64} {oD : Nat → UInt64} {Bw : Nat → Nat → Nat} (hLI : LI F N fb k0 cnt Bw) {many : Nat} {th : Int32} {fb2 fl2 fm2 fk2 : Nat → Int32} (hMR : MR fl2 fb2 N Bw) (x1 x2 : Int32) :
    ∃ (cc : Nat) (r : Int32) (N' : Nat → Nat) (B' : Nat → Nat → Nat), HC l yL_add wsL_add D T g a (F, N, B0, hd, tv, ml, cnt, k0, fb, o, oD) [.ref (a 0), .int x1, .int x2, .ref (a 23)] cc N' B' (fun u' => cc = 0 → uO u' 0 = r.toInt64) ∧ MC l yX6_add wsX6_add ({ frames := 60, cells := 0, slots := 0, locals := 3000 } : Room) D T g b (many, th, fb2, fl2, fm2, fk2) [.ref (b 0), .int x1, .int x2] (.int r) cc N' B' ∧ cc < 5 := by
  have hN : ∀ i, i < 6 → N i ≤ 320 := fun i hi => (hLI.1 i hi).2
  rcases cl9 (n := 5) (by decide) x1 with ⟨i, hi9, rfl⟩ | ⟨n1, n2, n3⟩
  · have hi : i < 6 := by omega
    rcases cl9 (n := 255) (by decide) x2 with ⟨v, hv9, rfl⟩ | ⟨n1, n2, n3⟩
    · have hv : v < 256 := by omega
      rcases Nat.lt_or_ge (N i) (320) with q | q
      · exact ⟨0, (nI (N i + 1)), _, _, HC_mono (H_add l D T g a hLI i v hi hv q) (fun _ h _ => h.trans (nI_l (by have := hN i hi; omega)).symm), (fun sz => m_add l D T g sz (b 0) (b 1) (b 2) (b 3) (b 4) many th fb2 fl2 fm2 fk2 N Bw hMR i hi v hv q), by decide⟩
      · exact ⟨3, (nI 0), N, Bw, HC_mono (H_add_x3 l D T g a hLI hl9 i hi v hv (by have := hN i hi; omega)) (fun _ _ h => absurd h (by decide)), (fun sz => m_add_3 l D T g sz (b 0) (b 1) (b 2) (b 3) (b 4) many th fb2 fl2 fm2 fk2 N Bw hMR i hi v hv (by have := hN i hi; omega)), by decide⟩
    · exact ⟨2, (nI 0), N, Bw, HC_mono (H_add_x2 l D T g a hLI hl9 i hi x2 n3) (fun _ _ h => absurd h (by decide)), (fun sz => m_add_2 l D T g sz (b 0) (b 1) (b 2) (b 3) (b 4) many th fb2 fl2 fm2 fk2 N Bw hMR i hi x2 n2), by decide⟩
  · exact ⟨1, (nI 0), N, Bw, HC_mono (H_add_x1 l D T g a hLI hl9 x1 n1 x2) (fun _ _ h => absurd h (by decide)), (fun sz => m_add_1 l D T g sz (b 0) (b 1) (b 2) (b 3) (b 4) many th fb2 fl2 fm2 fk2 N Bw hMR x1 n2 x2), by decide⟩
set_option maxHeartbeats 4000000 in
theorem ex_put (l : Launch) (D : va_G) (T : Nat → ClassId) (g : Nat → Nat) (a b : Nat → Nat) (hl9 : l.stackTraces = false) {F : Nat → Nat → Int32} {N : Nat → Nat} {B0 hd : Int32} {tv : Nat} {ml : Int32} {cnt k0 : Nat} {fb : Nat → Int32} {o : Nat → Int64} {oD : Nat → UInt64} {Bw : Nat → Nat → Nat} (hLI : LI F N fb k0 cnt Bw) {many : Nat} {th : Int32} {fb2 fl2 fm2 fk2 : Nat → Int32} (hMR : MR fl2 fb2 N Bw) (x1 x2 x3 : Int32) :
    ∃ (cc : Nat) (r : Int32) (N' : Nat → Nat) (B' : Nat → Nat → Nat), HC l yL_put wsL_put D T g a (F, N, B0, hd, tv, ml, cnt, k0, fb, o, oD) [.ref (a 0), .int x1, .int x2, .int x3, .ref (a 23)] cc N' B' (fun u' => cc = 0 → uO u' 0 = r.toInt64) ∧ MC l yX6_put wsX6_put ({ frames := 60, cells := 0, slots := 0, locals := 3000 } : Room) D T g b (many, th, fb2, fl2, fm2, fk2) [.ref (b 0), .int x1, .int x2, .int x3] (.int r) cc N' B' ∧ cc < 5 := by
  have hN : ∀ i, i < 6 → N i ≤ 320 := fun i hi => (hLI.1 i hi).2
  rcases cl9 (n := 5) (by decide) x1 with ⟨i, hi9, rfl⟩ | ⟨n1, n2, n3⟩
  · have hi : i < 6 := by omega
    rcases cl9 (n := N i) (by have := hN i hi; omega) x2 with ⟨p9, hp9, rfl⟩ | ⟨n1, n2, n3⟩
    · rcases Nat.lt_or_ge p9 (N i) with hp | hp
      · rcases cl9 (n := 255) (by decide) x3 with ⟨v, hv9, rfl⟩ | ⟨n1, n2, n3⟩
        · have hv : v < 256 := by omega
          exact ⟨0, (nI (Bw i p9)), _, _, HC_mono (H_put l D T g a hLI i p9 v hi hp hv) (fun _ h _ => h.trans (nI_l (by have := byte_lt hLI hi hp; omega)).symm), (fun sz => m_put l D T g sz (b 0) (b 1) (b 2) (b 3) (b 4) many th fb2 fl2 fm2 fk2 N Bw hMR i hi p9 hp v hv), by decide⟩
        · exact ⟨2, (nI 0), N, Bw, HC_mono (H_put_x3 l D T g a hLI hl9 i hi p9 x3 ⟨hp, (by have := hN i hi; omega)⟩ n3) (fun _ _ h => absurd h (by decide)), (fun sz => m_put_3 l D T g sz (b 0) (b 1) (b 2) (b 3) (b 4) many th fb2 fl2 fm2 fk2 N Bw hMR i hi p9 hp x3 n2), by decide⟩
      · exact ⟨1, (nI 0), N, Bw, HC_mono (H_put_x2 l D T g a hLI hl9 i hi (nI p9) x3 (Or.inr (nI_nlt hp (by have := hN i hi; omega)))) (fun _ _ h => absurd h (by decide)), (fun sz => m_put_2 l D T g sz (b 0) (b 1) (b 2) (b 3) (b 4) many th fb2 fl2 fm2 fk2 N Bw hMR i hi (nI p9) (Or.inr (nI_le hp (by have := hN i hi; omega))) x3), by decide⟩
    · exact ⟨1, (nI 0), N, Bw, HC_mono (H_put_x2 l D T g a hLI hl9 i hi x2 x3 (n2.elim Or.inl (fun z => Or.inr (nlt_of z)))) (fun _ _ h => absurd h (by decide)), (fun sz => m_put_2 l D T g sz (b 0) (b 1) (b 2) (b 3) (b 4) many th fb2 fl2 fm2 fk2 N Bw hMR i hi x2 (n2.elim Or.inl (fun z => Or.inr (Int32.le_of_lt z))) x3), by decide⟩
  · exact ⟨1, (nI 0), N, Bw, HC_mono (H_put_x1 l D T g a hLI hl9 x1 n1 x2 x3) (fun _ _ h => absurd h (by decide)), (fun sz => m_put_1 l D T g sz (b 0) (b 1) (b 2) (b 3) (b 4) many th fb2 fl2 fm2 fk2 N Bw hMR x1 n2 x2 x3), by decide⟩
set_option maxHeartbeats 4000000 in
theorem ex_insert (l : Launch) (D : va_G) (T : Nat → ClassId) (g : Nat → Nat) (a b : Nat → Nat) (hl9 : l.stackTraces = false) {F : Nat → Nat → Int32} {N : Nat → Nat} {B0 hd : Int32} {tv : Nat} {ml : Int32} {cnt k0 : Nat} {fb : Nat → Int32} {o : Nat → Int64} {oD : Nat → UInt64} {Bw : Nat → Nat → Nat} (hLI : LI F N fb k0 cnt Bw) {many : Nat} {th : Int32} {fb2 fl2 fm2 fk2 : Nat → Int32} (hMR : MR fl2 fb2 N Bw) (x1 x2 x3 : Int32) :
    ∃ (cc : Nat) (r : Int32) (N' : Nat → Nat) (B' : Nat → Nat → Nat), HC l yL_insert wsL_insert D T g a (F, N, B0, hd, tv, ml, cnt, k0, fb, o, oD) [.ref (a 0), .int x1, .int x2, .int x3, .ref (a 23)] cc N' B' (fun u' => cc = 0 → uO u' 0 = r.toInt64) ∧ MC l yX6_insert wsX6_insert ({ frames := 60, cells := 0, slots := 0, locals := 3000 } : Room) D T g b (many, th, fb2, fl2, fm2, fk2) [.ref (b 0), .int x1, .int x2, .int x3] (.int r) cc N' B' ∧ cc < 5 := by
  have hN : ∀ i, i < 6 → N i ≤ 320 := fun i hi => (hLI.1 i hi).2
  rcases cl9 (n := 5) (by decide) x1 with ⟨i, hi9, rfl⟩ | ⟨n1, n2, n3⟩
  · have hi : i < 6 := by omega
    rcases cl9 (n := N i) (by have := hN i hi; omega) x2 with ⟨p9, hp9, rfl⟩ | ⟨n1, n2, n3⟩
    · rcases cl9 (n := 255) (by decide) x3 with ⟨v, hv9, rfl⟩ | ⟨n1, n2, n3⟩
      · have hv : v < 256 := by omega
        rcases Nat.lt_or_ge (N i) (320) with q | q
        · exact ⟨0, (nI (N i + 1)), _, _, HC_mono (H_insert l D T g a hLI i p9 v hi ⟨hp9, q⟩ hv) (fun _ h _ => h.trans (nI_l (by have := hN i hi; omega)).symm), (fun sz => m_insert l D T g sz (b 0) (b 1) (b 2) (b 3) (b 4) many th fb2 fl2 fm2 fk2 N Bw hMR i hi p9 hp9 v hv q), by decide⟩
        · exact ⟨3, (nI 0), N, Bw, HC_mono (H_insert_x4 l D T g a hLI hl9 i hi p9 v ⟨hp9, (by have := hN i hi; omega)⟩ hv q) (fun _ _ h => absurd h (by decide)), (fun sz => m_insert_4 l D T g sz (b 0) (b 1) (b 2) (b 3) (b 4) many th fb2 fl2 fm2 fk2 N Bw hMR i hi p9 hp9 v hv (by have := hN i hi; omega)), by decide⟩
      · exact ⟨2, (nI 0), N, Bw, HC_mono (H_insert_x3 l D T g a hLI hl9 i hi p9 x3 ⟨hp9, (by have := hN i hi; omega)⟩ n3) (fun _ _ h => absurd h (by decide)), (fun sz => m_insert_3 l D T g sz (b 0) (b 1) (b 2) (b 3) (b 4) many th fb2 fl2 fm2 fk2 N Bw hMR i hi p9 hp9 x3 n2), by decide⟩
    · exact ⟨1, (nI 0), N, Bw, HC_mono (H_insert_x2 l D T g a hLI hl9 i hi x2 x3 n1) (fun _ _ h => absurd h (by decide)), (fun sz => m_insert_2 l D T g sz (b 0) (b 1) (b 2) (b 3) (b 4) many th fb2 fl2 fm2 fk2 N Bw hMR i hi x2 n2 x3), by decide⟩
  · exact ⟨1, (nI 0), N, Bw, HC_mono (H_insert_x1 l D T g a hLI hl9 x1 n1 x2 x3) (fun _ _ h => absurd h (by decide)), (fun sz => m_insert_1 l D T g sz (b 0) (b 1) (b 2) (b 3) (b 4) many th fb2 fl2 fm2 fk2 N Bw hMR x1 n2 x2 x3), by decide⟩
set_option maxHeartbeats 4000000 in
theorem ex_remove (l : Launch) (D : va_G) (T : Nat → ClassId) (g : Nat → Nat) (a b : Nat → Nat) (hl9 : l.stackTraces = false) {F : Nat → Nat → Int32} {N : Nat → Nat} {B0 hd : Int32} {tv : Nat} {ml : Int32} {cnt k0 : Nat} {fb : Nat → Int32} {o : Nat → Int64} {oD : Nat → UInt64} {Bw : Nat → Nat → Nat} (hLI : LI F N fb k0 cnt Bw) {many : Nat} {th : Int32} {fb2 fl2 fm2 fk2 : Nat → Int32} (hMR : MR fl2 fb2 N Bw) (x1 x2 x3 : Int32) :
    ∃ (cc : Nat) (r : Int32) (N' : Nat → Nat) (B' : Nat → Nat → Nat), HC l yL_remove wsL_remove D T g a (F, N, B0, hd, tv, ml, cnt, k0, fb, o, oD) [.ref (a 0), .int x1, .int x2, .int x3, .ref (a 23)] cc N' B' (fun u' => cc = 0 → uO u' 0 = r.toInt64) ∧ MC l yX6_remove wsX6_remove ({ frames := 60, cells := 0, slots := 0, locals := 3000 } : Room) D T g b (many, th, fb2, fl2, fm2, fk2) [.ref (b 0), .int x1, .int x2, .int x3] (.int r) cc N' B' ∧ cc < 5 := by
  have hN : ∀ i, i < 6 → N i ≤ 320 := fun i hi => (hLI.1 i hi).2
  rcases cl9 (n := 5) (by decide) x1 with ⟨i, hi9, rfl⟩ | ⟨n1, n2, n3⟩
  · have hi : i < 6 := by omega
    by_cases z2 : x2 < 0
    · exact ⟨1, (nI 0), N, Bw, HC_mono (H_remove_x2 l D T g a hLI hl9 i hi x2 x3 (Or.inl z2)) (fun _ _ h => absurd h (by decide)), (fun sz => m_remove_2 l D T g sz (b 0) (b 1) (b 2) (b 3) (b 4) many th fb2 fl2 fm2 fk2 N Bw hMR i hi x2 x3 (Or.inl z2)), by decide⟩
    by_cases z3 : x3 < 0
    · exact ⟨1, (nI 0), N, Bw, HC_mono (H_remove_x2 l D T g a hLI hl9 i hi x2 x3 (Or.inr (Or.inl z3))) (fun _ _ h => absurd h (by decide)), (fun sz => m_remove_2 l D T g sz (b 0) (b 1) (b 2) (b 3) (b 4) many th fb2 fl2 fm2 fk2 N Bw hMR i hi x2 x3 (Or.inr (Or.inl z3))), by decide⟩
    obtain ⟨p9, hp9, rfl⟩ := nI_of z2
    obtain ⟨m9, hm9, rfl⟩ := nI_of z3
    have hro := rem_ok (hN i hi) hp9 hm9
    rcases Nat.lt_or_ge (N i) (p9 + m9) with q | q
    · exact ⟨1, (nI 0), N, Bw, HC_mono (H_remove_x2 l D T g a hLI hl9 i hi (nI p9) (nI m9) (Or.inr (Or.inr (fun z => absurd (hro.2.mp z) (by omega))))) (fun _ _ h => absurd h (by decide)), (fun sz => m_remove_2 l D T g sz (b 0) (b 1) (b 2) (b 3) (b 4) many th fb2 fl2 fm2 fk2 N Bw hMR i hi (nI p9) (nI m9) (Or.inr (Or.inr (hro.1.mpr q)))), by decide⟩
    · exact ⟨0, (nI (N i - m9)), _, _, HC_mono (H_remove l D T g a hLI i p9 m9 hi q) (fun _ h _ => h.trans (nI_l (by have := hN i hi; omega)).symm), (fun sz => m_remove l D T g sz (b 0) (b 1) (b 2) (b 3) (b 4) many th fb2 fl2 fm2 fk2 N Bw hMR i hi p9 m9 q), by decide⟩
  · exact ⟨1, (nI 0), N, Bw, HC_mono (H_remove_x1 l D T g a hLI hl9 x1 n1 x2 x3) (fun _ _ h => absurd h (by decide)), (fun sz => m_remove_1 l D T g sz (b 0) (b 1) (b 2) (b 3) (b 4) many th fb2 fl2 fm2 fk2 N Bw hMR x1 n2 x2 x3), by decide⟩
set_option maxHeartbeats 4000000 in
theorem ex_length (l : Launch) (D : va_G) (T : Nat → ClassId) (g : Nat → Nat) (a b : Nat → Nat) (hl9 : l.stackTraces = false) {F : Nat → Nat → Int32} {N : Nat → Nat} {B0 hd : Int32} {tv : Nat} {ml : Int32} {cnt k0 : Nat} {fb : Nat → Int32} {o : Nat → Int64} {oD : Nat → UInt64} {Bw : Nat → Nat → Nat} (hLI : LI F N fb k0 cnt Bw) {many : Nat} {th : Int32} {fb2 fl2 fm2 fk2 : Nat → Int32} (hMR : MR fl2 fb2 N Bw) (x1 : Int32) :
    ∃ (cc : Nat) (r : Int32) (N' : Nat → Nat) (B' : Nat → Nat → Nat), HC l yL_length wsL_length D T g a (F, N, B0, hd, tv, ml, cnt, k0, fb, o, oD) [.ref (a 0), .int x1, .ref (a 23)] cc N' B' (fun u' => cc = 0 → uO u' 0 = r.toInt64) ∧ MC l yX6_length wsX6_length ({ frames := 60, cells := 0, slots := 0, locals := 3000 } : Room) D T g b (many, th, fb2, fl2, fm2, fk2) [.ref (b 0), .int x1] (.int r) cc N' B' ∧ cc < 5 := by
  have hN : ∀ i, i < 6 → N i ≤ 320 := fun i hi => (hLI.1 i hi).2
  rcases cl9 (n := 5) (by decide) x1 with ⟨i, hi9, rfl⟩ | ⟨n1, n2, n3⟩
  · have hi : i < 6 := by omega
    exact ⟨0, (nI (N i)), _, _, HC_mono (H_length l D T g a hLI i hi) (fun _ h _ => h.trans (nI_l (by have := hN i hi; omega)).symm), (fun sz => m_length l D T g sz (b 0) (b 1) (b 2) (b 3) (b 4) many th fb2 fl2 fm2 fk2 N Bw hMR i hi), by decide⟩
  · exact ⟨1, (nI 0), N, Bw, HC_mono (H_length_x1 l D T g a hLI hl9 x1 n1) (fun _ _ h => absurd h (by decide)), (fun sz => m_length_1 l D T g sz (b 0) (b 1) (b 2) (b 3) (b 4) many th fb2 fl2 fm2 fk2 N Bw hMR x1 n2), by decide⟩
set_option maxHeartbeats 4000000 in
theorem ex_get (l : Launch) (D : va_G) (T : Nat → ClassId) (g : Nat → Nat) (a b : Nat → Nat) (hl9 : l.stackTraces = false) {F : Nat → Nat → Int32} {N : Nat → Nat} {B0 hd : Int32} {tv : Nat} {ml : Int32} {cnt k0 : Nat} {fb : Nat → Int32} {o : Nat → Int64} {oD : Nat → UInt64} {Bw : Nat → Nat → Nat} (hLI : LI F N fb k0 cnt Bw) {many : Nat} {th : Int32} {fb2 fl2 fm2 fk2 : Nat → Int32} (hMR : MR fl2 fb2 N Bw) (x1 x2 : Int32) :
    ∃ (cc : Nat) (r : Int32) (N' : Nat → Nat) (B' : Nat → Nat → Nat), HC l yL_get wsL_get D T g a (F, N, B0, hd, tv, ml, cnt, k0, fb, o, oD) [.ref (a 0), .int x1, .int x2, .ref (a 23)] cc N' B' (fun u' => cc = 0 → uO u' 0 = r.toInt64) ∧ MC l yX6_get wsX6_get ({ frames := 60, cells := 0, slots := 0, locals := 3000 } : Room) D T g b (many, th, fb2, fl2, fm2, fk2) [.ref (b 0), .int x1, .int x2] (.int r) cc N' B' ∧ cc < 5 := by
  have hN : ∀ i, i < 6 → N i ≤ 320 := fun i hi => (hLI.1 i hi).2
  rcases cl9 (n := 5) (by decide) x1 with ⟨i, hi9, rfl⟩ | ⟨n1, n2, n3⟩
  · have hi : i < 6 := by omega
    rcases cl9 (n := N i) (by have := hN i hi; omega) x2 with ⟨p9, hp9, rfl⟩ | ⟨n1, n2, n3⟩
    · rcases Nat.lt_or_ge p9 (N i) with hp | hp
      · exact ⟨0, (nI (Bw i p9)), _, _, HC_mono (H_get l D T g a hLI i p9 hi hp) (fun _ h _ => h.trans (nI_l (by have := byte_lt hLI hi hp; omega)).symm), (fun sz => m_get l D T g sz (b 0) (b 1) (b 2) (b 3) (b 4) many th fb2 fl2 fm2 fk2 N Bw hMR i hi p9 hp), by decide⟩
      · exact ⟨1, (nI 0), N, Bw, HC_mono (H_get_x2 l D T g a hLI hl9 i hi (nI p9) (Or.inr (nI_nlt hp (by have := hN i hi; omega)))) (fun _ _ h => absurd h (by decide)), (fun sz => m_get_2 l D T g sz (b 0) (b 1) (b 2) (b 3) (b 4) many th fb2 fl2 fm2 fk2 N Bw hMR i hi (nI p9) (Or.inr (nI_le hp (by have := hN i hi; omega)))), by decide⟩
    · exact ⟨1, (nI 0), N, Bw, HC_mono (H_get_x2 l D T g a hLI hl9 i hi x2 (n2.elim Or.inl (fun z => Or.inr (nlt_of z)))) (fun _ _ h => absurd h (by decide)), (fun sz => m_get_2 l D T g sz (b 0) (b 1) (b 2) (b 3) (b 4) many th fb2 fl2 fm2 fk2 N Bw hMR i hi x2 (n2.elim Or.inl (fun z => Or.inr (Int32.le_of_lt z)))), by decide⟩
  · exact ⟨1, (nI 0), N, Bw, HC_mono (H_get_x1 l D T g a hLI hl9 x1 n1 x2) (fun _ _ h => absurd h (by decide)), (fun sz => m_get_1 l D T g sz (b 0) (b 1) (b 2) (b 3) (b 4) many th fb2 fl2 fm2 fk2 N Bw hMR x1 n2 x2), by decide⟩
set_option maxHeartbeats 4000000 in
theorem ex_copy (l : Launch) (D : va_G) (T : Nat → ClassId) (g : Nat → Nat) (a b : Nat → Nat) (hl9 : l.stackTraces = false) {F : Nat → Nat → Int32} {N : Nat → Nat} {B0 hd : Int32} {tv : Nat} {ml : Int32} {cnt k0 : Nat} {fb : Nat → Int32} {o : Nat → Int64} {oD : Nat → UInt64} {Bw : Nat → Nat → Nat} (hLI : LI F N fb k0 cnt Bw) {many : Nat} {th : Int32} {fb2 fl2 fm2 fk2 : Nat → Int32} (hMR : MR fl2 fb2 N Bw) (x1 x2 : Int32) :
    ∃ (cc : Nat) (r : Int32) (N' : Nat → Nat) (B' : Nat → Nat → Nat), HC l yL_copy wsL_copy D T g a (F, N, B0, hd, tv, ml, cnt, k0, fb, o, oD) [.ref (a 0), .int x1, .int x2, .ref (a 23)] cc N' B' (fun u' => cc = 0 → uO u' 0 = r.toInt64) ∧ MC l yX6_copy wsX6_copy ({ frames := 60, cells := 0, slots := 0, locals := 3000 } : Room) D T g b (many, th, fb2, fl2, fm2, fk2) [.ref (b 0), .int x1, .int x2] (.int r) cc N' B' ∧ cc < 5 := by
  have hN : ∀ i, i < 6 → N i ≤ 320 := fun i hi => (hLI.1 i hi).2
  rcases cl9 (n := 5) (by decide) x1 with ⟨i, hi9, rfl⟩ | ⟨n1, n2, n3⟩
  · have hi : i < 6 := by omega
    rcases cl9 (n := 5) (by decide) x2 with ⟨j, hj9, rfl⟩ | ⟨n1, n2, n3⟩
    · have hj : j < 6 := by omega
      by_cases hij : i = j
      · subst hij
        exact ⟨0, (nI (N i)), N, Bw, HC_mono (H_copy_a l D T g a hLI i hi) (fun _ h _ => h.trans (nI_l (by have := hN i hi; omega)).symm), MC_N (fun sz => m_copy l D T g sz (b 0) (b 1) (b 2) (b 3) (b 4) many th fb2 fl2 fm2 fk2 N Bw hMR i hi i hi) (fun j _ => upA_id _ _ _) (fun j _ => upA_id _ _ _), by decide⟩
      · exact ⟨0, (nI (N i)), _, _, HC_mono (H_copy l D T g a hLI i j hi hj hij) (fun _ h _ => h.trans (nI_l (by have := hN i hi; omega)).symm), (fun sz => m_copy l D T g sz (b 0) (b 1) (b 2) (b 3) (b 4) many th fb2 fl2 fm2 fk2 N Bw hMR i hi j hj), by decide⟩
    · exact ⟨1, (nI 0), N, Bw, HC_mono (H_copy_x2 l D T g a hLI hl9 i hi x2 n1) (fun _ _ h => absurd h (by decide)), (fun sz => m_copy_2 l D T g sz (b 0) (b 1) (b 2) (b 3) (b 4) many th fb2 fl2 fm2 fk2 N Bw hMR i hi x2 n2), by decide⟩
  · exact ⟨1, (nI 0), N, Bw, HC_mono (H_copy_x1 l D T g a hLI hl9 x1 n1 x2) (fun _ _ h => absurd h (by decide)), (fun sz => m_copy_1 l D T g sz (b 0) (b 1) (b 2) (b 3) (b 4) many th fb2 fl2 fm2 fk2 N Bw hMR x1 n2 x2), by decide⟩
set_option maxHeartbeats 4000000 in
theorem ex_isLike (l : Launch) (D : va_G) (T : Nat → ClassId) (g : Nat → Nat) (a b : Nat → Nat) (hl9 : l.stackTraces = false) {F : Nat → Nat → Int32} {N : Nat → Nat} {B0 hd : Int32} {tv : Nat} {ml : Int32} {cnt k0 : Nat} {fb : Nat → Int32} {o : Nat → Int64} {oD : Nat → UInt64} {Bw : Nat → Nat → Nat} (hLI : LI F N fb k0 cnt Bw) {many : Nat} {th : Int32} {fb2 fl2 fm2 fk2 : Nat → Int32} (hMR : MR fl2 fb2 N Bw) (x1 x2 : Int32) :
    ∃ (cc : Nat) (r : Bool) (N' : Nat → Nat) (B' : Nat → Nat → Nat), HC l yL_isLike wsL_isLike D T g a (F, N, B0, hd, tv, ml, cnt, k0, fb, o, oD) [.ref (a 0), .int x1, .int x2, .ref (a 23)] cc N' B' (fun u' => cc = 0 → uO u' 0 = bL r) ∧ MC l yX6_isLike wsX6_isLike ({ frames := 60, cells := 0, slots := 0, locals := 3000 } : Room) D T g b (many, th, fb2, fl2, fm2, fk2) [.ref (b 0), .int x1, .int x2] (.int (bI r)) cc N' B' ∧ cc < 5 := by
  have hN : ∀ i, i < 6 → N i ≤ 320 := fun i hi => (hLI.1 i hi).2
  rcases cl9 (n := 5) (by decide) x1 with ⟨i, hi9, rfl⟩ | ⟨n1, n2, n3⟩
  · have hi : i < 6 := by omega
    rcases cl9 (n := 5) (by decide) x2 with ⟨j, hj9, rfl⟩ | ⟨n1, n2, n3⟩
    · have hj : j < 6 := by omega
      by_cases hij : i = j
      · subst hij
        exact ⟨0, (saB (N i) (Bw i) (N i) (Bw i)), _, _, HC_mono (H_isLike_a l D T g a hLI i hi) (fun _ h _ => h.trans (by rw [saB_self]; rfl)), (fun sz => m_isLike l D T g sz (b 0) (b 1) (b 2) (b 3) (b 4) many th fb2 fl2 fm2 fk2 N Bw hMR i hi i hi), by decide⟩
      · exact ⟨0, (saB (N i) (Bw i) (N j) (Bw j)), _, _, HC_mono (H_isLike l D T g a hLI i j hi hj hij) (fun _ h _ => h), (fun sz => m_isLike l D T g sz (b 0) (b 1) (b 2) (b 3) (b 4) many th fb2 fl2 fm2 fk2 N Bw hMR i hi j hj), by decide⟩
    · exact ⟨1, false, N, Bw, HC_mono (H_isLike_x2 l D T g a hLI hl9 i hi x2 n1) (fun _ _ h => absurd h (by decide)), (fun sz => m_isLike_2 l D T g sz (b 0) (b 1) (b 2) (b 3) (b 4) many th fb2 fl2 fm2 fk2 N Bw hMR i hi x2 n2), by decide⟩
  · exact ⟨1, false, N, Bw, HC_mono (H_isLike_x1 l D T g a hLI hl9 x1 n1 x2) (fun _ _ h => absurd h (by decide)), (fun sz => m_isLike_1 l D T g sz (b 0) (b 1) (b 2) (b 3) (b 4) many th fb2 fl2 fm2 fk2 N Bw hMR x1 n2 x2), by decide⟩
set_option maxHeartbeats 4000000 in
theorem ex_write (l : Launch) (D : va_G) (T : Nat → ClassId) (g : Nat → Nat) (a b : Nat → Nat) (hl9 : l.stackTraces = false) {F : Nat → Nat → Int32} {N : Nat → Nat} {B0 hd : Int32} {tv : Nat} {ml : Int32} {cnt k0 : Nat} {fb : Nat → Int32} {o : Nat → Int64} {oD : Nat → UInt64} {Bw : Nat → Nat → Nat} (hLI : LI F N fb k0 cnt Bw) {many : Nat} {th : Int32} {fb2 fl2 fm2 fk2 : Nat → Int32} (hMR : MR fl2 fb2 N Bw) (x1 x2 x3 : Int32) (fl : Nat) (hfl : fl < 2) :
    ∃ (cc : Nat) (r : Int32) (N' : Nat → Nat) (B' : Nat → Nat → Nat), HC l yL_write wsL_write D T g a (F, N, B0, hd, tv, ml, cnt, k0, fb, o, oD) [.ref (a 0), .int x1, .int x2, .int x3, .int (nI fl), .ref (a 23)] cc N' B' (fun u' => cc = 0 → uO u' 0 = r.toInt64) ∧ MC l yX6_write wsX6_write ({ frames := 60, cells := 0, slots := 0, locals := 3000 } : Room) D T g b (many, th, fb2, fl2, fm2, fk2) [.ref (b 0), .int x1, .int x2, .int x3, .int (nI fl)] (.int r) cc N' B' ∧ cc < 5 := by
  have hN : ∀ i, i < 6 → N i ≤ 320 := fun i hi => (hLI.1 i hi).2
  rcases cl9 (n := 5) (by decide) x1 with ⟨i, hi9, rfl⟩ | ⟨n1, n2, n3⟩
  · have hi : i < 6 := by omega
    rcases cl9 (n := 5) (by decide) x2 with ⟨j, hj9, rfl⟩ | ⟨n1, n2, n3⟩
    · have hj : j < 6 := by omega
      rcases cl9 (n := 2) (by decide) x3 with ⟨k, hk9, rfl⟩ | ⟨n1, n2, n3⟩
      · have hk : k < 3 := by omega
        rcases Nat.lt_or_ge 320 (lnN k (N i) fl) with q | q
        · exact ⟨3, (nI 0), N, Bw, HC_mono (H_write_x4 l D T g a hLI hl9 i j k hk fl hi hj hfl q) (fun _ _ h => absurd h (by decide)), (fun sz => m_write_4 l D T g sz (b 0) (b 1) (b 2) (b 3) (b 4) many th fb2 fl2 fm2 fk2 N Bw hMR i hi j hj k hk fl hfl q), by decide⟩
        · by_cases hij : i = j
          · subst hij
            exact ⟨0, (nI (lnN k (N i) fl)), _, _, HC_mono (H_write_a l D T g a hLI i k hk fl hfl q hi) (fun _ h _ => h.trans (nI_l (by have := lnN_le (k := k) (fl := fl) (hN i hi); omega)).symm), (fun sz => m_write l D T g sz (b 0) (b 1) (b 2) (b 3) (b 4) many th fb2 fl2 fm2 fk2 N Bw hMR i hi i hi k hk fl hfl q), by decide⟩
          · exact ⟨0, (nI (lnN k (N i) fl)), _, _, HC_mono (H_write l D T g a hLI i j k hk fl hfl q hi hj hij) (fun _ h _ => h.trans (nI_l (by have := lnN_le (k := k) (fl := fl) (hN i hi); omega)).symm), (fun sz => m_write l D T g sz (b 0) (b 1) (b 2) (b 3) (b 4) many th fb2 fl2 fm2 fk2 N Bw hMR i hi j hj k hk fl hfl q), by decide⟩
      · exact ⟨2, (nI 0), N, Bw, HC_mono (H_write_x3 l D T g a hLI hl9 i j hi hj x3 n1 (nI fl)) (fun _ _ h => absurd h (by decide)), (fun sz => m_write_3 l D T g sz (b 0) (b 1) (b 2) (b 3) (b 4) many th fb2 fl2 fm2 fk2 N Bw hMR i hi j hj x3 n2 (nI fl)), by decide⟩
    · exact ⟨1, (nI 0), N, Bw, HC_mono (H_write_x2 l D T g a hLI hl9 i hi x2 n1 x3 (nI fl)) (fun _ _ h => absurd h (by decide)), (fun sz => m_write_2 l D T g sz (b 0) (b 1) (b 2) (b 3) (b 4) many th fb2 fl2 fm2 fk2 N Bw hMR i hi x2 n2 x3 (nI fl)), by decide⟩
  · exact ⟨1, (nI 0), N, Bw, HC_mono (H_write_x1 l D T g a hLI hl9 x1 n1 x2 x3 (nI fl)) (fun _ _ h => absurd h (by decide)), (fun sz => m_write_1 l D T g sz (b 0) (b 1) (b 2) (b 3) (b 4) many th fb2 fl2 fm2 fk2 N Bw hMR x1 n2 x2 x3 (nI fl)), by decide⟩
set_option maxHeartbeats 4000000 in
theorem ex_writeText (l : Launch) (D : va_G) (T : Nat → ClassId) (g : Nat → Nat) (a b : Nat → Nat) (hl9 : l.stackTraces = false) {F : Nat → Nat → Int32} {N : Nat → Nat} {B0 hd : Int32} {tv : Nat} {ml : Int32} {cnt k0 : Nat} {fb : Nat → Int32} {o : Nat → Int64} {oD : Nat → UInt64} {Bw : Nat → Nat → Nat} (hLI : LI F N fb k0 cnt Bw) {many : Nat} {th : Int32} {fb2 fl2 fm2 fk2 : Nat → Int32} (hMR : MR fl2 fb2 N Bw) (x1 x2 x3 : Int32) (fl : Nat) (hfl : fl < 2) :
    ∃ (cc : Nat) (r : Int32) (N' : Nat → Nat) (B' : Nat → Nat → Nat), HC l yL_writeText wsL_writeText D T g a (F, N, B0, hd, tv, ml, cnt, k0, fb, o, oD) [.ref (a 0), .int x1, .int x2, .int x3, .int (nI fl), .ref (a 23)] cc N' B' (fun u' => cc = 0 → uO u' 0 = r.toInt64) ∧ MC l yX6_writeText wsX6_writeText ({ frames := 62, cells := 0, slots := 0, locals := 3100 } : Room) D T g b (many, th, fb2, fl2, fm2, fk2) [.ref (b 0), .int x1, .int x2, .int x3, .int (nI fl)] (.int r) cc N' B' ∧ cc < 5 := by
  have hN : ∀ i, i < 6 → N i ≤ 320 := fun i hi => (hLI.1 i hi).2
  rcases cl9 (n := 5) (by decide) x1 with ⟨i, hi9, rfl⟩ | ⟨n1, n2, n3⟩
  · have hi : i < 6 := by omega
    rcases cl9 (n := 5) (by decide) x2 with ⟨j, hj9, rfl⟩ | ⟨n1, n2, n3⟩
    · have hj : j < 6 := by omega
      rcases cl9 (n := 2) (by decide) x3 with ⟨k, hk9, rfl⟩ | ⟨n1, n2, n3⟩
      · have hk : k < 3 := by omega
        rcases Nat.lt_or_ge 320 (lnN k (N i) fl) with q | q
        · exact ⟨3, (nI 0), N, Bw, HC_mono (H_writeText_x4 l D T g a hLI hl9 i j k hk fl hi hj hfl q) (fun _ _ h => absurd h (by decide)), (fun sz => m_writeText_4 l D T g sz (b 0) (b 1) (b 2) (b 3) (b 4) many th fb2 fl2 fm2 fk2 N Bw hMR i hi j hj k hk fl hfl q), by decide⟩
        · by_cases hij : i = j
          · subst hij
            exact ⟨0, (nI (lnN k (N i) fl)), _, _, HC_mono (H_writeText_a l D T g a hLI i k hk fl hfl q hi) (fun _ h _ => h.trans (nI_l (by have := lnN_le (k := k) (fl := fl) (hN i hi); omega)).symm), (fun sz => m_writeText l D T g sz (b 0) (b 1) (b 2) (b 3) (b 4) many th fb2 fl2 fm2 fk2 N Bw hMR i hi i hi k hk fl hfl q), by decide⟩
          · exact ⟨0, (nI (lnN k (N i) fl)), _, _, HC_mono (H_writeText l D T g a hLI i j k hk fl hfl q hi hj hij) (fun _ h _ => h.trans (nI_l (by have := lnN_le (k := k) (fl := fl) (hN i hi); omega)).symm), (fun sz => m_writeText l D T g sz (b 0) (b 1) (b 2) (b 3) (b 4) many th fb2 fl2 fm2 fk2 N Bw hMR i hi j hj k hk fl hfl q), by decide⟩
      · exact ⟨2, (nI 0), N, Bw, HC_mono (H_writeText_x3 l D T g a hLI hl9 i j hi hj x3 n1 (nI fl)) (fun _ _ h => absurd h (by decide)), (fun sz => m_writeText_3 l D T g sz (b 0) (b 1) (b 2) (b 3) (b 4) many th fb2 fl2 fm2 fk2 N Bw hMR i hi j hj x3 n2 (nI fl)), by decide⟩
    · exact ⟨1, (nI 0), N, Bw, HC_mono (H_writeText_x2 l D T g a hLI hl9 i hi x2 n1 x3 (nI fl)) (fun _ _ h => absurd h (by decide)), (fun sz => m_writeText_2 l D T g sz (b 0) (b 1) (b 2) (b 3) (b 4) many th fb2 fl2 fm2 fk2 N Bw hMR i hi x2 n2 x3 (nI fl)), by decide⟩
  · exact ⟨1, (nI 0), N, Bw, HC_mono (H_writeText_x1 l D T g a hLI hl9 x1 n1 x2 x3 (nI fl)) (fun _ _ h => absurd h (by decide)), (fun sz => m_writeText_1 l D T g sz (b 0) (b 1) (b 2) (b 3) (b 4) many th fb2 fl2 fm2 fk2 N Bw hMR x1 n2 x2 x3 (nI fl)), by decide⟩
set_option maxHeartbeats 4000000 in
theorem ex_read (l : Launch) (D : va_G) (T : Nat → ClassId) (g : Nat → Nat) (a b : Nat → Nat) (hl9 : l.stackTraces = false) {F : Nat → Nat → Int32} {N : Nat → Nat} {B0 hd : Int32} {tv : Nat} {ml : Int32} {cnt k0 : Nat} {fb : Nat → Int32} {o : Nat → Int64} {oD : Nat → UInt64} {Bw : Nat → Nat → Nat} (hLI : LI F N fb k0 cnt Bw) {many : Nat} {th : Int32} {fb2 fl2 fm2 fk2 : Nat → Int32} (hMR : MR fl2 fb2 N Bw) (x1 x2 x3 : Int32) :
    ∃ (cc : Nat) (r : Int32) (N' : Nat → Nat) (B' : Nat → Nat → Nat), HC l yL_read wsL_read D T g a (F, N, B0, hd, tv, ml, cnt, k0, fb, o, oD) [.ref (a 0), .int x1, .int x2, .int x3, .ref (a 23)] cc N' B' (fun u' => cc = 0 → uO u' 0 = r.toInt64) ∧ MC l yX6_read wsX6_read ({ frames := 60, cells := 0, slots := 0, locals := 3000 } : Room) D T g b (many, th, fb2, fl2, fm2, fk2) [.ref (b 0), .int x1, .int x2, .int x3] (.int r) cc N' B' ∧ cc < 5 := by
  have hN : ∀ i, i < 6 → N i ≤ 320 := fun i hi => (hLI.1 i hi).2
  rcases cl9 (n := 5) (by decide) x1 with ⟨i, hi9, rfl⟩ | ⟨n1, n2, n3⟩
  · have hi : i < 6 := by omega
    rcases cl9 (n := 5) (by decide) x2 with ⟨j, hj9, rfl⟩ | ⟨n1, n2, n3⟩
    · have hj : j < 6 := by omega
      rcases cl9 (n := 2) (by decide) x3 with ⟨k, hk9, rfl⟩ | ⟨n1, n2, n3⟩
      · have hk : k < 3 := by omega
        cases hw : wroB k (N i) (Bw i) with
        | true => exact ⟨2, (nI 0), N, Bw, HC_mono (H_read_x4 l D T g a hLI hl9 i j hi hj k hk hw) (fun _ _ h => absurd h (by decide)), (fun sz => m_read_4 l D T g sz (b 0) (b 1) (b 2) (b 3) (b 4) many th fb2 fl2 fm2 fk2 N Bw hMR i hi j hj k hk hw), by decide⟩
        | false =>
          cases hu : untB k (N i) (Bw i) with
          | true => exact ⟨3, (nI 0), N, Bw, HC_mono (H_read_x5 l D T g a hLI hl9 i j hi hj k hk hw hu) (fun _ _ h => absurd h (by decide)), (fun sz => m_read_5 l D T g sz (b 0) (b 1) (b 2) (b 3) (b 4) many th fb2 fl2 fm2 fk2 N Bw hMR i hi j hj k hk hw hu), by decide⟩
          | false =>
            by_cases hij : i = j
            · subst hij
              exact ⟨0, (nI (lF k (N i) (Bw i) * 6 / 8)), _, _, HC_mono (H_read_a l D T g a hLI i hi k hk hw hu) (fun _ h _ => h.trans (nI_l (by have := l9_le (k := k) (b := Bw i) (n := N i) (by have := hN i hi; omega); have := hN i hi; omega)).symm), (fun sz => m_read l D T g sz (b 0) (b 1) (b 2) (b 3) (b 4) many th fb2 fl2 fm2 fk2 N Bw hMR i hi i hi k hk hw hu), by decide⟩
            · exact ⟨0, (nI (lF k (N i) (Bw i) * 6 / 8)), _, _, HC_mono (H_read l D T g a hLI i j hi hj k hk hw hu hij) (fun _ h _ => h.trans (nI_l (by have := l9_le (k := k) (b := Bw i) (n := N i) (by have := hN i hi; omega); have := hN i hi; omega)).symm), (fun sz => m_read l D T g sz (b 0) (b 1) (b 2) (b 3) (b 4) many th fb2 fl2 fm2 fk2 N Bw hMR i hi j hj k hk hw hu), by decide⟩
      · exact ⟨2, (nI 0), N, Bw, HC_mono (H_read_x3 l D T g a hLI hl9 i j hi hj x3 n1) (fun _ _ h => absurd h (by decide)), (fun sz => m_read_3 l D T g sz (b 0) (b 1) (b 2) (b 3) (b 4) many th fb2 fl2 fm2 fk2 N Bw hMR i hi j hj x3 n2), by decide⟩
    · exact ⟨1, (nI 0), N, Bw, HC_mono (H_read_x2 l D T g a hLI hl9 i hi x2 n1 x3) (fun _ _ h => absurd h (by decide)), (fun sz => m_read_2 l D T g sz (b 0) (b 1) (b 2) (b 3) (b 4) many th fb2 fl2 fm2 fk2 N Bw hMR i hi x2 n2 x3), by decide⟩
  · exact ⟨1, (nI 0), N, Bw, HC_mono (H_read_x1 l D T g a hLI hl9 x1 n1 x2 x3) (fun _ _ h => absurd h (by decide)), (fun sz => m_read_1 l D T g sz (b 0) (b 1) (b 2) (b 3) (b 4) many th fb2 fl2 fm2 fk2 N Bw hMR x1 n2 x2 x3), by decide⟩
set_option maxHeartbeats 4000000 in
theorem ex_look (l : Launch) (D : va_G) (T : Nat → ClassId) (g : Nat → Nat) (a b : Nat → Nat) (hl9 : l.stackTraces = false) {F : Nat → Nat → Int32} {N : Nat → Nat} {B0 hd : Int32} {tv : Nat} {ml : Int32} {cnt k0 : Nat} {fb : Nat → Int32} {o : Nat → Int64} {oD : Nat → UInt64} {Bw : Nat → Nat → Nat} (hLI : LI F N fb k0 cnt Bw) {many : Nat} {th : Int32} {fb2 fl2 fm2 fk2 : Nat → Int32} (hMR : MR fl2 fb2 N Bw) (x1 x2 : Int32) :
    ∃ (cc : Nat) (r : Int32) (N' : Nat → Nat) (B' : Nat → Nat → Nat), HC l yL_look wsL_look D T g a (F, N, B0, hd, tv, ml, cnt, k0, fb, o, oD) [.ref (a 0), .int x1, .int x2, .ref (a 23)] cc N' B' (fun u' => cc = 0 → uO u' 0 = r.toInt64) ∧ MC l yX6_look wsX6_look ({ frames := 60, cells := 0, slots := 0, locals := 3000 } : Room) D T g b (many, th, fb2, fl2, fm2, fk2) [.ref (b 0), .int x1, .int x2] (.int r) cc N' B' ∧ cc < 5 := by
  have hN : ∀ i, i < 6 → N i ≤ 320 := fun i hi => (hLI.1 i hi).2
  rcases cl9 (n := 5) (by decide) x1 with ⟨i, hi9, rfl⟩ | ⟨n1, n2, n3⟩
  · have hi : i < 6 := by omega
    rcases cl9 (n := 2) (by decide) x2 with ⟨k, hk9, rfl⟩ | ⟨n1, n2, n3⟩
    · have hk : k < 3 := by omega
      exact ⟨0, (tlI k (N i) (Bw i)), _, _, HC_mono (H_look l D T g a hLI i hi k hk) (fun _ h _ => h), (fun sz => m_look l D T g sz (b 0) (b 1) (b 2) (b 3) (b 4) many th fb2 fl2 fm2 fk2 N Bw hMR i hi k hk), by decide⟩
    · exact ⟨2, (nI 0), N, Bw, HC_mono (H_look_x2 l D T g a hLI hl9 i hi x2 n1) (fun _ _ h => absurd h (by decide)), (fun sz => m_look_2 l D T g sz (b 0) (b 1) (b 2) (b 3) (b 4) many th fb2 fl2 fm2 fk2 N Bw hMR i hi x2 n2), by decide⟩
  · exact ⟨1, (nI 0), N, Bw, HC_mono (H_look_x1 l D T g a hLI hl9 x1 n1 x2) (fun _ _ h => absurd h (by decide)), (fun sz => m_look_1 l D T g sz (b 0) (b 1) (b 2) (b 3) (b 4) many th fb2 fl2 fm2 fk2 N Bw hMR x1 n2 x2), by decide⟩
set_option maxHeartbeats 4000000 in
theorem ex_letters (l : Launch) (D : va_G) (T : Nat → ClassId) (g : Nat → Nat) (a b : Nat → Nat) (hl9 : l.stackTraces = false) {F : Nat → Nat → Int32} {N : Nat → Nat} {B0 hd : Int32} {tv : Nat} {ml : Int32} {cnt k0 : Nat} {fb : Nat → Int32} {o : Nat → Int64} {oD : Nat → UInt64} {Bw : Nat → Nat → Nat} (hLI : LI F N fb k0 cnt Bw) {many : Nat} {th : Int32} {fb2 fl2 fm2 fk2 : Nat → Int32} (hMR : MR fl2 fb2 N Bw) (x1 x2 : Int32) :
    ∃ (cc : Nat) (r : Int32) (N' : Nat → Nat) (B' : Nat → Nat → Nat), HC l yL_letters wsL_letters D T g a (F, N, B0, hd, tv, ml, cnt, k0, fb, o, oD) [.ref (a 0), .int x1, .int x2, .ref (a 23)] cc N' B' (fun u' => cc = 0 → uO u' 0 = r.toInt64) ∧ MC l yX6_letters wsX6_letters ({ frames := 60, cells := 0, slots := 0, locals := 3000 } : Room) D T g b (many, th, fb2, fl2, fm2, fk2) [.ref (b 0), .int x1, .int x2] (.int r) cc N' B' ∧ cc < 5 := by
  have hN : ∀ i, i < 6 → N i ≤ 320 := fun i hi => (hLI.1 i hi).2
  rcases cl9 (n := 5) (by decide) x1 with ⟨i, hi9, rfl⟩ | ⟨n1, n2, n3⟩
  · have hi : i < 6 := by omega
    rcases cl9 (n := 2) (by decide) x2 with ⟨k, hk9, rfl⟩ | ⟨n1, n2, n3⟩
    · have hk : k < 3 := by omega
      exact ⟨0, (nI (ctN (ltB k (Bw i)) (N i))), _, _, HC_mono (H_letters l D T g a hLI i hi k hk) (fun _ h _ => h.trans (nI_l (by have := ctN_le (ltB k (Bw i)) (N i); have := hN i hi; omega)).symm), (fun sz => m_letters l D T g sz (b 0) (b 1) (b 2) (b 3) (b 4) many th fb2 fl2 fm2 fk2 N Bw hMR i hi k hk), by decide⟩
    · exact ⟨2, (nI 0), N, Bw, HC_mono (H_letters_x2 l D T g a hLI hl9 i hi x2 n1) (fun _ _ h => absurd h (by decide)), (fun sz => m_letters_2 l D T g sz (b 0) (b 1) (b 2) (b 3) (b 4) many th fb2 fl2 fm2 fk2 N Bw hMR i hi x2 n2), by decide⟩
  · exact ⟨1, (nI 0), N, Bw, HC_mono (H_letters_x1 l D T g a hLI hl9 x1 n1 x2) (fun _ _ h => absurd h (by decide)), (fun sz => m_letters_1 l D T g sz (b 0) (b 1) (b 2) (b 3) (b 4) many th fb2 fl2 fm2 fk2 N Bw hMR x1 n2 x2), by decide⟩
set_option maxHeartbeats 4000000 in
theorem ex_isWritten (l : Launch) (D : va_G) (T : Nat → ClassId) (g : Nat → Nat) (a b : Nat → Nat) (hl9 : l.stackTraces = false) {F : Nat → Nat → Int32} {N : Nat → Nat} {B0 hd : Int32} {tv : Nat} {ml : Int32} {cnt k0 : Nat} {fb : Nat → Int32} {o : Nat → Int64} {oD : Nat → UInt64} {Bw : Nat → Nat → Nat} (hLI : LI F N fb k0 cnt Bw) {many : Nat} {th : Int32} {fb2 fl2 fm2 fk2 : Nat → Int32} (hMR : MR fl2 fb2 N Bw) (x1 x2 : Int32) :
    ∃ (cc : Nat) (r : Bool) (N' : Nat → Nat) (B' : Nat → Nat → Nat), HC l yL_isWritten wsL_isWritten D T g a (F, N, B0, hd, tv, ml, cnt, k0, fb, o, oD) [.ref (a 0), .int x1, .int x2, .ref (a 23)] cc N' B' (fun u' => cc = 0 → uO u' 0 = bL r) ∧ MC l yX6_isWritten wsX6_isWritten ({ frames := 60, cells := 0, slots := 0, locals := 3000 } : Room) D T g b (many, th, fb2, fl2, fm2, fk2) [.ref (b 0), .int x1, .int x2] (.int (bI r)) cc N' B' ∧ cc < 5 := by
  have hN : ∀ i, i < 6 → N i ≤ 320 := fun i hi => (hLI.1 i hi).2
  rcases cl9 (n := 5) (by decide) x1 with ⟨i, hi9, rfl⟩ | ⟨n1, n2, n3⟩
  · have hi : i < 6 := by omega
    rcases cl9 (n := 2) (by decide) x2 with ⟨k, hk9, rfl⟩ | ⟨n1, n2, n3⟩
    · have hk : k < 3 := by omega
      cases hw : wroB k (N i) (Bw i) with
      | true => exact ⟨0, false, _, _, HC_mono (H_isWritten_n l D T g a hLI i hi k hk (Or.inl hw)) (fun _ h _ => h), (fun sz => m_isWritten_n l D T g sz (b 0) (b 1) (b 2) (b 3) (b 4) many th fb2 fl2 fm2 fk2 N Bw hMR i hi k hk (Or.inl hw)), by decide⟩
      | false =>
        cases hu : untB k (N i) (Bw i) with
        | true => exact ⟨0, false, _, _, HC_mono (H_isWritten_n l D T g a hLI i hi k hk (Or.inr hu)) (fun _ h _ => h), (fun sz => m_isWritten_n l D T g sz (b 0) (b 1) (b 2) (b 3) (b 4) many th fb2 fl2 fm2 fk2 N Bw hMR i hi k hk (Or.inr hu)), by decide⟩
        | false =>
          exact ⟨0, (saB (N i) (Bw i) (lnN k (lF k (N i) (Bw i) * 6 / 8) 1) (wrA k (lF k (N i) (Bw i) * 6 / 8) (outB (lwF k (N i) (Bw i)))) || saB (N i) (Bw i) (lnN k (lF k (N i) (Bw i) * 6 / 8) 0) (wrA k (lF k (N i) (Bw i) * 6 / 8) (outB (lwF k (N i) (Bw i))))), _, _, HC_mono (H_isWritten l D T g a hLI i hi k hk hw hu _ rfl) (fun _ h _ => h), (fun sz => m_isWritten l D T g sz (b 0) (b 1) (b 2) (b 3) (b 4) many th fb2 fl2 fm2 fk2 N Bw hMR i hi k hk hw hu), by decide⟩
    · exact ⟨2, false, N, Bw, HC_mono (H_isWritten_x2 l D T g a hLI hl9 i hi x2 n1) (fun _ _ h => absurd h (by decide)), (fun sz => m_isWritten_2 l D T g sz (b 0) (b 1) (b 2) (b 3) (b 4) many th fb2 fl2 fm2 fk2 N Bw hMR i hi x2 n2), by decide⟩
  · exact ⟨1, false, N, Bw, HC_mono (H_isWritten_x1 l D T g a hLI hl9 x1 n1 x2) (fun _ _ h => absurd h (by decide)), (fun sz => m_isWritten_1 l D T g sz (b 0) (b 1) (b 2) (b 3) (b 4) many th fb2 fl2 fm2 fk2 N Bw hMR x1 n2 x2), by decide⟩
set_option maxHeartbeats 4000000 in
theorem ex_plain (l : Launch) (D : va_G) (T : Nat → ClassId) (g : Nat → Nat) (a b : Nat → Nat) (hl9 : l.stackTraces = false) {F : Nat → Nat → Int32} {N : Nat → Nat} {B0 hd : Int32} {tv : Nat} {ml : Int32} {cnt k0 : Nat} {fb : Nat → Int32} {o : Nat → Int64} {oD : Nat → UInt64} {Bw : Nat → Nat → Nat} (hLI : LI F N fb k0 cnt Bw) {many : Nat} {th : Int32} {fb2 fl2 fm2 fk2 : Nat → Int32} (hMR : MR fl2 fb2 N Bw) (x1 x2 : Int32) :
    ∃ (cc : Nat) (r : Int32) (N' : Nat → Nat) (B' : Nat → Nat → Nat), HC l yL_plain wsL_plain D T g a (F, N, B0, hd, tv, ml, cnt, k0, fb, o, oD) [.ref (a 0), .int x1, .int x2, .ref (a 23)] cc N' B' (fun u' => cc = 0 → uO u' 0 = r.toInt64) ∧ MC l yX6_plain wsX6_plain ({ frames := 60, cells := 0, slots := 0, locals := 3000 } : Room) D T g b (many, th, fb2, fl2, fm2, fk2) [.ref (b 0), .int x1, .int x2] (.int r) cc N' B' ∧ cc < 5 := by
  have hN : ∀ i, i < 6 → N i ≤ 320 := fun i hi => (hLI.1 i hi).2
  rcases cl9 (n := 5) (by decide) x1 with ⟨i, hi9, rfl⟩ | ⟨n1, n2, n3⟩
  · have hi : i < 6 := by omega
    rcases cl9 (n := 2) (by decide) x2 with ⟨k, hk9, rfl⟩ | ⟨n1, n2, n3⟩
    · have hk : k < 3 := by omega
      cases hw : wroB k (N i) (Bw i) with
      | true => exact ⟨2, (nI 0), N, Bw, HC_mono (H_plain_x4 l D T g a hLI hl9 i hi k hk hw) (fun _ _ h => absurd h (by decide)), (fun sz => m_plain_4 l D T g sz (b 0) (b 1) (b 2) (b 3) (b 4) many th fb2 fl2 fm2 fk2 N Bw hMR i hi k hk hw), by decide⟩
      | false =>
        cases hu : untB k (N i) (Bw i) with
        | true => exact ⟨3, (nI 0), N, Bw, HC_mono (H_plain_x5 l D T g a hLI hl9 i hi k hk hw hu) (fun _ _ h => absurd h (by decide)), (fun sz => m_plain_5 l D T g sz (b 0) (b 1) (b 2) (b 3) (b 4) many th fb2 fl2 fm2 fk2 N Bw hMR i hi k hk hw hu), by decide⟩
        | false =>
          rcases Nat.lt_or_ge 320 (lnN k (lF k (N i) (Bw i) * 6 / 8) 1) with q | q
          · exact ⟨4, (nI 0), N, Bw, HC_mono (H_plain_x6 l D T g a hLI hl9 i hi k hk hw hu _ rfl q) (fun _ _ h => absurd h (by decide)), (fun sz => m_plain_6 l D T g sz (b 0) (b 1) (b 2) (b 3) (b 4) many th fb2 fl2 fm2 fk2 N Bw hMR i hi k hk hw hu q), by decide⟩
          · exact ⟨0, (nI (lnN k (lF k (N i) (Bw i) * 6 / 8) 1)), _, _, HC_mono (H_plain l D T g a hLI i hi k hk hw hu _ rfl q) (fun _ h _ => h.trans (nI_l (by omega)).symm), (fun sz => m_plain l D T g sz (b 0) (b 1) (b 2) (b 3) (b 4) many th fb2 fl2 fm2 fk2 N Bw hMR i hi k hk hw hu q), by decide⟩
    · exact ⟨2, (nI 0), N, Bw, HC_mono (H_plain_x2 l D T g a hLI hl9 i hi x2 n1) (fun _ _ h => absurd h (by decide)), (fun sz => m_plain_2 l D T g sz (b 0) (b 1) (b 2) (b 3) (b 4) many th fb2 fl2 fm2 fk2 N Bw hMR i hi x2 n2), by decide⟩
  · exact ⟨1, (nI 0), N, Bw, HC_mono (H_plain_x1 l D T g a hLI hl9 x1 n1 x2) (fun _ _ h => absurd h (by decide)), (fun sz => m_plain_1 l D T g sz (b 0) (b 1) (b 2) (b 3) (b 4) many th fb2 fl2 fm2 fk2 N Bw hMR x1 n2 x2), by decide⟩
set_option maxHeartbeats 4000000 in
theorem ex_letterShare (l : Launch) (D : va_G) (T : Nat → ClassId) (g : Nat → Nat) (a b : Nat → Nat) (hl9 : l.stackTraces = false) {F : Nat → Nat → Int32} {N : Nat → Nat} {B0 hd : Int32} {tv : Nat} {ml : Int32} {cnt k0 : Nat} {fb : Nat → Int32} {o : Nat → Int64} {oD : Nat → UInt64} {Bw : Nat → Nat → Nat} (hLI : LI F N fb k0 cnt Bw) {many : Nat} {th : Int32} {fb2 fl2 fm2 fk2 : Nat → Int32} (hMR : MR fl2 fb2 N Bw) (x1 x2 : Int32) :
    ∃ (cc : Nat) (r : UInt32) (N' : Nat → Nat) (B' : Nat → Nat → Nat), HC l yL_letterShare wsL_letterShare D T g a (F, N, B0, hd, tv, ml, cnt, k0, fb, o, oD) [.ref (a 0), .int x1, .int x2, .ref (a 24)] cc N' B' (fun u' => cc = 0 → uD u' 0 = FP.f2d r ∧ vf_n64 (FP.f2d r) ∧ FP.dcmp (FP.f2d r) (FP.f2d r) = some .eq) ∧ MC l yX6_letterShare wsX6_letterShare ({ frames := 60, cells := 0, slots := 0, locals := 3000 } : Room) D T g b (many, th, fb2, fl2, fm2, fk2) [.ref (b 0), .int x1, .int x2] (.float r) cc N' B' ∧ cc < 5 := by
  have hN : ∀ i, i < 6 → N i ≤ 320 := fun i hi => (hLI.1 i hi).2
  rcases cl9 (n := 5) (by decide) x1 with ⟨i, hi9, rfl⟩ | ⟨n1, n2, n3⟩
  · have hi : i < 6 := by omega
    rcases cl9 (n := 2) (by decide) x2 with ⟨k, hk9, rfl⟩ | ⟨n1, n2, n3⟩
    · have hk : k < 3 := by omega
      rcases Nat.eq_zero_or_pos (N i) with q | q
      · exact ⟨3, FP.fconst0, N, Bw, HC_mono (H_letterShare_x3 l D T g a hLI hl9 i hi k hk q) (fun _ _ h => absurd h (by decide)), (fun sz => m_letterShare_3 l D T g sz (b 0) (b 1) (b 2) (b 3) (b 4) many th fb2 fl2 fm2 fk2 N Bw hMR i hi k hk q), by decide⟩
      · have hs := sh_d (a := ctN (ltB k (Bw i)) (N i)) (b := N i) (by have := ctN_le (ltB k (Bw i)) (N i); have := hN i hi; omega) (by have := hN i hi; omega) q
        exact ⟨0, (FP.fdiv (FP.i2f (nI (ctN (ltB k (Bw i)) (N i)))) (FP.i2f (nI (N i)))), _, _, HC_mono (H_letterShare l D T g a hLI i hi k hk ⟨q, hN i hi⟩) (fun _ h _ => ⟨h, hs.1, hs.2⟩), (fun sz => m_letterShare l D T g sz (b 0) (b 1) (b 2) (b 3) (b 4) many th fb2 fl2 fm2 fk2 N Bw hMR i hi k hk q), by decide⟩
    · exact ⟨2, FP.fconst0, N, Bw, HC_mono (H_letterShare_x2 l D T g a hLI hl9 i hi x2 n1) (fun _ _ h => absurd h (by decide)), (fun sz => m_letterShare_2 l D T g sz (b 0) (b 1) (b 2) (b 3) (b 4) many th fb2 fl2 fm2 fk2 N Bw hMR i hi x2 n2), by decide⟩
  · exact ⟨1, FP.fconst0, N, Bw, HC_mono (H_letterShare_x1 l D T g a hLI hl9 x1 n1 x2) (fun _ _ h => absurd h (by decide)), (fun sz => m_letterShare_1 l D T g sz (b 0) (b 1) (b 2) (b 3) (b 4) many th fb2 fl2 fm2 fk2 N Bw hMR x1 n2 x2), by decide⟩
set_option maxHeartbeats 4000000 in
theorem ex_growth (l : Launch) (D : va_G) (T : Nat → ClassId) (g : Nat → Nat) (a b : Nat → Nat) (hl9 : l.stackTraces = false) {F : Nat → Nat → Int32} {N : Nat → Nat} {B0 hd : Int32} {tv : Nat} {ml : Int32} {cnt k0 : Nat} {fb : Nat → Int32} {o : Nat → Int64} {oD : Nat → UInt64} {Bw : Nat → Nat → Nat} (hLI : LI F N fb k0 cnt Bw) {many : Nat} {th : Int32} {fb2 fl2 fm2 fk2 : Nat → Int32} (hMR : MR fl2 fb2 N Bw) (x1 x2 : Int32) :
    ∃ (cc : Nat) (r : UInt64) (N' : Nat → Nat) (B' : Nat → Nat → Nat), HC l yL_growth wsL_growth D T g a (F, N, B0, hd, tv, ml, cnt, k0, fb, o, oD) [.ref (a 0), .int x1, .int x2, .ref (a 24)] cc N' B' (fun u' => cc = 0 → uD u' 0 = r ∧ FP.dcmp r r = some .eq) ∧ MC l yX6_growth wsX6_growth ({ frames := 60, cells := 0, slots := 0, locals := 3000 } : Room) D T g b (many, th, fb2, fl2, fm2, fk2) [.ref (b 0), .int x1, .int x2] (.double r) cc N' B' ∧ cc < 5 := by
  have hN : ∀ i, i < 6 → N i ≤ 320 := fun i hi => (hLI.1 i hi).2
  rcases cl9 (n := 5) (by decide) x1 with ⟨i, hi9, rfl⟩ | ⟨n1, n2, n3⟩
  · have hi : i < 6 := by omega
    rcases cl9 (n := 2) (by decide) x2 with ⟨k, hk9, rfl⟩ | ⟨n1, n2, n3⟩
    · have hk : k < 3 := by omega
      rcases Nat.eq_zero_or_pos (N i) with q | q
      · exact ⟨3, FP.dconst0, N, Bw, HC_mono (H_growth_x3 l D T g a hLI hl9 i hi k hk q) (fun _ _ h => absurd h (by decide)), (fun sz => m_growth_3 l D T g sz (b 0) (b 1) (b 2) (b 3) (b 4) many th fb2 fl2 fm2 fk2 N Bw hMR i hi k hk q), by decide⟩
      · have hs := gr_d (a := lnN k (N i) 1) (b := N i) (by have := lnN_le (k := k) (fl := 1) (hN i hi); omega) (by have := hN i hi; omega) q
        exact ⟨0, (FP.ddiv (FP.i2d (nI (lnN k (N i) 1))) (FP.i2d (nI (N i)))), _, _, HC_mono (H_growth l D T g a hLI i hi k hk ⟨q, hN i hi⟩) (fun _ h _ => ⟨h, hs⟩), (fun sz => m_growth l D T g sz (b 0) (b 1) (b 2) (b 3) (b 4) many th fb2 fl2 fm2 fk2 N Bw hMR i hi k hk q), by decide⟩
    · exact ⟨2, FP.dconst0, N, Bw, HC_mono (H_growth_x2 l D T g a hLI hl9 i hi x2 n1) (fun _ _ h => absurd h (by decide)), (fun sz => m_growth_2 l D T g sz (b 0) (b 1) (b 2) (b 3) (b 4) many th fb2 fl2 fm2 fk2 N Bw hMR i hi x2 n2), by decide⟩
  · exact ⟨1, FP.dconst0, N, Bw, HC_mono (H_growth_x1 l D T g a hLI hl9 x1 n1 x2) (fun _ _ h => absurd h (by decide)), (fun sz => m_growth_1 l D T g sz (b 0) (b 1) (b 2) (b 3) (b 4) many th fb2 fl2 fm2 fk2 N Bw hMR x1 n2 x2), by decide⟩
end OPS
