/-! the pile -/
theorem nW_i {a b : Int} (ha : 0 ≤ a) (hb : 0 ≤ b) (e : some (nW a) = some (nW b)) : a = b := by
  have e := Option.some.inj e
  unfold nW at e
  omega
theorem nW_e {a b : Int} (e : a = b) : some (nW a) = some (nW b) := by rw [e]
theorem IO_hasW {S : S9} (hO : IO S) {s i : Int} (s0 : 0 ≤ s) (s1 : s < 4) (i0 : 0 ≤ i) (i1 : i < S 16 s) : 0 ≤ S 15 (6 * s + i) := by
  have := hO s i s0 s1 i0 i1
  omega
theorem LA_eqq {h : zH} {n ed : Nat} {cp len len' : Int} {q q' : Int → Option Nat} (hl : len' = len) (e : ∀ i, 0 ≤ i → i < len → q' i = q i) (a : LA h n ed cp len q) : LA h n ed cp len' q' := by
  subst hl
  obtain ⟨a1, a2, a3, a4, a5, a6⟩ := a
  exact ⟨a1, a2, a3, a4, a5, fun i i0 i1 => (a6 i i0 i1).trans (e i i0 i1).symm⟩
theorem tkO_q {S : S9} {s p j : Int} (hp0 : 0 ≤ p) (j0 : 0 ≤ j) (j1 : j < S 16 s - 1) : pileQ (tkO S s p) s j = if j < p then pileQ S s j else pileQ S s (j + 1) := by
  unfold pileQ tkO
  by_cases z : j < p
  · rw [if_pos z, if_neg (by omega), if_neg (by omega)]
  · rw [if_neg z, if_pos (by omega), show 6 * s + j + 1 = 6 * s + (j + 1) by omega]
theorem tkO_n {S : S9} {s p : Int} : tkO S s p 16 s = S 16 s - 1 := by
  unfold tkO
  rw [if_neg (by omega), if_pos ⟨rfl, rfl⟩]
