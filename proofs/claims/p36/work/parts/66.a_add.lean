/-! a list's first row -/
theorem LA_grow0 {h : zH} {n a : Nat} {cp len : Int} {q : Int → Option Nat} (hA : LA h n 0 cp len q) (h0 : len = 0) (hna : n ≠ a) (a1 : 1 < a) : LA (sr (nw h a 107 10) 1 n (some a)) n a 10 len q := by
  obtain ⟨a1', a2, a3, a4, a5, a6⟩ := hA
  refine ⟨?_, z2_eq, ?_, ⟨by omega, by omega⟩, Or.inr ⟨by omega, fun z => hna z.symm, ?_, ?_⟩, fun i i0 i1 => by omega⟩
  · exact (eqAt_nw (kd := 107) (len := 10) hna).1.trans a1'
  · exact ((eqAt_nw (kd := 107) (len := 10) (h := h) hna).2.2.1 2).trans a3
  · exact if_pos rfl
  · exact if_pos rfl
