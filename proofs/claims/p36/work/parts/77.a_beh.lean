/-! a client's change: what it reads -/
def RPc (S : S9) (h : zH) (c : Int) : Prop := (zK h (nC c + 1) = 2 ∧ zr h 100 (nC c + 1) = some (nC c + 2) ∧ zr h 101 (nC c + 1) = some (nS (S 35 c) + 4)) ∧ zK h (nC c + 2) = 100 ∧ zN h (nC c + 2) = 96 ∧ ∀ p, 0 ≤ p → p < 96 → za h (nC c + 2) p = S 40 (96 * c + p)
theorem RPc_at {S : S9} {h h' : zH} {c : Int} (e1 : eqAt (nC c + 1) h h') (e2 : eqAt (nC c + 2) h h') (a : RPc S h c) : RPc S h' c := by
  obtain ⟨b1, -, -, -, b5, -⟩ := e1
  obtain ⟨c1, c2, -, c4, -⟩ := e2
  unfold RPc at a ⊢
  simp only [b1, b5, c1, c2, c4]
  exact a
theorem RT_beg {S : S9} {h : zH} {s i : Int} (a : RT (notI (up S 26 s 1) s i) h s) (i0 : 0 ≤ i) : RT (notI (up S 26 s 1) s (i + 1)) (sa h (nS s + 8) i 0) s := by
  obtain ⟨⟨o1, o2, o3, o4, o5⟩, ⟨t1, t2, t3⟩, u1, u2, u3⟩ := a
  refine ⟨⟨o1, o2, o3, ?_, ?_⟩, ⟨t1, t2, fun p p0 p1 => ?_⟩, u1, u2, fun r r0 r1 => ?_⟩
  · rw [notI_s i0, up_f (by decide)]
    exact o4
  · rw [notI_s i0, up_f (by decide)]
    exact o5
  · rw [notI_s i0, up_f (by decide)]
    exact (z3_nn (by omega)).trans (t3 p p0 p1)
  · rw [notI_s i0]
    by_cases z : r = i
    · rw [z, up_eq]
      exact z3_eq
    · rw [up_i (by omega)]
      exact (z3_ni z).trans (u3 r r0 r1)
theorem RT_beg0 {S : S9} {h : zH} {s : Int} (a : RT S h s) : RT (notI (up S 26 s 1) s 0) (sf h 702 (nS s + 6) 1) s := by
  have e : ∀ f j, notI (up S 26 s 1) s 0 f j = up S 26 s 1 f j := fun f j => if_neg (by omega)
  obtain ⟨⟨o1, o2, o3, o4, o5⟩, ⟨t1, t2, t3⟩, u1, u2, u3⟩ := a
  refine ⟨⟨o1, o2, o3, ?_, ?_⟩, ⟨t1, t2, fun p p0 p1 => ?_⟩, u1, u2, fun r r0 r1 => ?_⟩
  · rw [e, up_eq]
    exact z2_eq
  · rw [e, up_f (by decide)]
    exact (show z2 (zf h) 702 (nS s + 6) 1 703 (nS s + 6) = S 28 s from (z2_ni (by decide)).trans o5)
  · rw [e, up_f (by decide)]
    exact t3 p p0 p1
  · rw [e, up_f (by decide)]
    exact u3 r r0 r1
