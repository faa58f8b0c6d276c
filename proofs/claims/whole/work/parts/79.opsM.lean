section OPS2
set_option maxHeartbeats 4000000 in
theorem ex_addMore (l : Launch) (D : va_G) (T : Nat → ClassId) (g : Nat → Nat) (a b : Nat → Nat) (hl9 : l.stackTraces = false) {F : Nat → Nat → Int32} {N : Nat → Nat} {B0 hd : Int32} {tv : Nat} {ml : Int32} {cnt k0 : Nat} {fb : Nat → Int32} {o : Nat → Int64} {oD : Nat → UInt64} {Bw : Nat → Nat → Nat} (hLI : LI F N fb k0 cnt Bw) {many : Nat} {th : Int32} {fb2 fl2 fm2 fk2 : Nat → Int32} (hMR : MR fl2 fb2 N Bw) (x1 x2 y0 y1 y2 y3 y4 y5 y6 y7 : Int32) :
    ∃ (cc : Nat) (r : Int32) (N' : Nat → Nat) (B' : Nat → Nat → Nat), HC l yL_addMore wsL_addMore D T g a (F, N, B0, hd, tv, ml, cnt, k0, fb, o, oD) [.ref (a 0), .int x1, .int x2, .int y0, .int y1, .int y2, .int y3, .int y4, .int y5, .int y6, .int y7, .ref (a 23)] cc N' B' (fun u' => cc = 0 → uO u' 0 = r.toInt64) ∧ MC l yX6_addMore wsX6_addMore ({ frames := 62, cells := 0, slots := 0, locals := 3100 } : Room) D T g b (many, th, fb2, fl2, fm2, fk2) [.ref (b 0), .int x1, .int x2, .int y0, .int y1, .int y2, .int y3, .int y4, .int y5, .int y6, .int y7] (.int r) cc N' B' ∧ cc < 5 := by
  have hN : ∀ i, i < 6 → N i ≤ 320 := fun i hi => (hLI.1 i hi).2
  rcases cl9 (n := 5) (by decide) x1 with ⟨i, hi9, rfl⟩ | ⟨n1, n2, n3⟩
  · have hi : i < 6 := by omega
    rcases cl9 (n := 8) (by decide) x2 with ⟨m9, hm99, rfl⟩ | ⟨n1, n2, n3⟩
    · have hm9 : m9 < 9 := by omega
      rcases Nat.eq_zero_or_pos m9 with z | hm1
      · subst z
        exact ⟨2, (nI 0), N, Bw, HC_mono (H_addMore_x2 l D T g a hLI hl9 i hi (nI 0) y0 y1 y2 y3 y4 y5 y6 y7 (Or.inl (by decide))) (fun _ _ h => absurd h (by decide)), (fun sz => m_addMore_2 l D T g sz (b 0) (b 1) (b 2) (b 3) (b 4) many th fb2 fl2 fm2 fk2 N Bw hMR i hi (nI 0) y0 y1 y2 y3 y4 y5 y6 y7 (Or.inl (by decide))), by decide⟩
      have hm : 1 ≤ m9 ∧ m9 ≤ 8 := ⟨hm1, hm99⟩
      rcases gv_cases (gvN y0 y1 y2 y3 y4 y5 y6 y7) m9 with ⟨v, hgd⟩ | ⟨z0, v, hz, hgd, hzb, hzc⟩
      · rcases Nat.lt_or_ge 320 (N i + m9) with q | q
        · exact ⟨3, (nI 0), N, Bw, HC_mono (H_addMore_x4 l D T g a hLI hl9 i hi m9 hm v y0 y1 y2 y3 y4 y5 y6 y7 hgd ⟨q, hN i hi⟩) (fun _ _ h => absurd h (by decide)), (fun sz => m_addMore_4 l D T g sz (b 0) (b 1) (b 2) (b 3) (b 4) many th fb2 fl2 fm2 fk2 N Bw hMR i hi m9 hm v y0 y1 y2 y3 y4 y5 y6 y7 hgd q), by decide⟩
        · exact ⟨0, (nI (N i + m9)), _, _, HC_mono (H_addMore l D T g a hLI i hi m9 hm v y0 y1 y2 y3 y4 y5 y6 y7 hgd q) (fun _ h _ => h.trans (nI_l (by have := hN i hi; omega)).symm), (fun sz => m_addMore l D T g sz (b 0) (b 1) (b 2) (b 3) (b 4) many th fb2 fl2 fm2 fk2 N Bw hMR i hi m9 hm v y0 y1 y2 y3 y4 y5 y6 y7 hgd q), by decide⟩
      · exact ⟨2, (nI 0), N, Bw, HC_mono (H_addMore_x3 l D T g a hLI hl9 i hi m9 hm v y0 y1 y2 y3 y4 y5 y6 y7 z0 hz hgd hzb) (fun _ _ h => absurd h (by decide)), (fun sz => m_addMore_3 l D T g sz (b 0) (b 1) (b 2) (b 3) (b 4) many th fb2 fl2 fm2 fk2 N Bw hMR i hi m9 hm y0 y1 y2 y3 y4 y5 y6 y7 z0 hz hzc), by decide⟩
    · exact ⟨2, (nI 0), N, Bw, HC_mono (H_addMore_x2 l D T g a hLI hl9 i hi x2 y0 y1 y2 y3 y4 y5 y6 y7 (n3.elim (fun z => Or.inl (Int32.lt_trans z (by decide))) Or.inr)) (fun _ _ h => absurd h (by decide)), (fun sz => m_addMore_2 l D T g sz (b 0) (b 1) (b 2) (b 3) (b 4) many th fb2 fl2 fm2 fk2 N Bw hMR i hi x2 y0 y1 y2 y3 y4 y5 y6 y7 (n3.elim (fun z => Or.inl (Int32.lt_trans z (by decide))) Or.inr)), by decide⟩
  · exact ⟨1, (nI 0), N, Bw, HC_mono (H_addMore_x1 l D T g a hLI hl9 x1 n1 x2 y0 y1 y2 y3 y4 y5 y6 y7) (fun _ _ h => absurd h (by decide)), (fun sz => m_addMore_1 l D T g sz (b 0) (b 1) (b 2) (b 3) (b 4) many th fb2 fl2 fm2 fk2 N Bw hMR x1 n2 x2 y0 y1 y2 y3 y4 y5 y6 y7), by decide⟩
end OPS2
