/-! a window more -/
/-- the session's row of windows -/
def RWn (S : S9) (h : zH) (s : Int) : Prop := zK h (nS s + 1) = 106 ∧ zN h (nS s + 1) = 6 ∧ ∀ j, 0 ≤ j → j < S 4 s → zq h (nS s + 1) j = some (nW (6 * s + j))
theorem RWn_at {S : S9} {h h' : zH} {s : Int} (e : eqAt (nS s + 1) h h') (a : RWn S h s) : RWn S h' s := by
  obtain ⟨b1, b2, -, -, -, b6, -⟩ := e
  exact ⟨b1.trans a.1, b2.trans a.2.1, fun j j0 j1 => (b6 j).trans (a.2.2 j j0 j1)⟩
theorem RWn_add {S S' : S9} {h : zH} {s : Int} (e : S' 4 s = S 4 s + 1) (a : RWn S h s) : RWn S' (sf (sq h (nS s + 1) (S 4 s) (some (nW (6 * s + S 4 s)))) 607 (nS s) (S 4 s + 1)) s := by
  refine ⟨a.1, a.2.1, fun j j0 j1 => ?_⟩
  show z3 (zq h) (nS s + 1) (S 4 s) _ (nS s + 1) j = _
  by_cases z : j = S 4 s
  · subst z
    exact z3_eq
  · exact (z3_ni z).trans (a.2.2 j j0 (by omega))
theorem RSo_add {S S' : S9} {h : zH} {s : Int} {w : Option Nat} (e : S' 4 s = S 4 s + 1) (e2 : S' 31 s = S 31 s) (a : RSo S h s) : RSo S' (sf (sq h (nS s + 1) (S 4 s) w) 607 (nS s) (S 4 s + 1)) s := by
  obtain ⟨a1, a2, a3, a4, a5, a6, a7, a8, a9⟩ := a
  refine ⟨a1, a2, a3, a4, a5, a6, a7, ?_, ?_⟩
  · rw [e2]
    exact a8
  · rw [e]
    exact z2_eq
