/-! a client's own fields -/
def RCl (S : S9) (h : zH) (c : Int) : Prop := zK h (nC c) = 3 ∧ zr h 200 (nC c) = some (nS (S 35 c)) ∧ zr h 201 (nC c) = some (nC c + 2) ∧ zr h 202 (nC c) = some (nC c + 1) ∧ zf h 203 (nC c) = S 36 c ∧ zf h 204 (nC c) = S 37 c ∧ zf h 205 (nC c) = S 38 c ∧ zf h 206 (nC c) = S 39 c
theorem RCl_at {S : S9} {h h' : zH} {c : Int} (e : eqAt (nC c) h h') (a : RCl S h c) : RCl S h' c := by
  obtain ⟨b1, -, b3, -, b5, -⟩ := e
  unfold RCl at a ⊢
  simp only [b1, b3, b5]
  exact a
