theorem RT_agf {S S' : S9} {h : zH} {s : Int} (e : ∀ f, (f = 26 ∨ f = 28 ∨ f = 29 ∨ f = 30) → ∀ j, S' f j = S f j) (a : RT S h s) : RT S' h s := by
  unfold RT at a ⊢
  simp only [e 26 (by decide), e 28 (by decide), e 29 (by decide), e 30 (by decide)]
  exact a
theorem RSo_hd {S S' : S9} {h : zH} {s v : Int} (e : ∀ j, S' 31 j = S 31 j) (e4 : ∀ j, S' 4 j = S 4 j) (a : RSo S h s) : RSo S' (sf h 608 (nS s) v) s := by
  obtain ⟨a1, a2, a3, a4, a5, a6, a7, a8, a9⟩ := a
  exact ⟨a1, a2, a3, a4, a5, a6, a7, a8.trans (by rw [e]), ((show z2 (zf h) 608 (nS s) v 607 (nS s) = zf h 607 (nS s) from z2_ni (by decide)).trans a9).trans (e4 s).symm⟩
theorem rowsS_g {S : S9} {s j : Int} {f : Nat} (h : f ≠ 26 ∧ f ≠ 27 ∧ f ≠ 28 ∧ f ≠ 29 ∧ f ≠ 30) : rowsS S s f j = S f j := by
  unfold rowsS
  split
  · rw [up_f (by omega), up_f (by omega), up_f (by omega)]
  · split
    · unfold cpyI
      rw [if_neg (by omega), up_f (by omega), up_f (by omega)]
    · rw [up_f (by omega)]
theorem rowsS_h27 {S : S9} {s : Int} : rowsS S s 27 s = b2 (S 26 s = 1 ∧ cntL S s ≤ 2) := by
  unfold rowsS
  by_cases z : S 26 s = 1 ∧ cntL S s ≤ 2
  · rw [if_pos z, b2_t z, up_f (by decide), up_f (by decide), up_eq]
  · rw [if_neg z, b2_f z]
    split
    · unfold cpyI
      rw [if_neg (by omega), up_f (by decide), up_eq]
    · rw [up_eq]
