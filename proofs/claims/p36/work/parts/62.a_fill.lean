/-! drawing: the class goes row by row -/
theorem drawI_skip {S : S9} {w x y a b c n n' : Int} (h : n ≤ n') (hk : ∀ k, n ≤ k → k < n' → ¬ inR (S 7 w) x y a b k) (f : Nat) (j : Int) : drawI S w x y a b c n' f j = drawI S w x y a b c n f j := by
  unfold drawI
  by_cases e : f = 14 ∧ 96 * w ≤ j ∧ j < 96 * w + n ∧ inR (S 7 w) x y a b (j - 96 * w)
  · rw [if_pos e, if_pos ⟨e.1, e.2.1, by omega, e.2.2.2⟩]
  · rw [if_neg e, if_neg]
    rintro ⟨z1, z2, z3, z4⟩
    by_cases e2 : j < 96 * w + n
    · exact e ⟨z1, z2, e2, z4⟩
    · exact hk (j - 96 * w) (by omega) (by omega) z4
theorem sg_skip {f : Int → Int} {n n' : Int} (h0 : 0 ≤ n) (h : n ≤ n') (hk : ∀ k, n ≤ k → k < n' → f k = 0) : sg f n'.toNat = sg f n.toNat := by
  have key : ∀ d : Nat, (∀ k, n ≤ k → k < n + d → f k = 0) → sg f (n + d).toNat = sg f n.toNat := by
    intro d
    induction d with
    | zero => intro _; rw [show n + ((0 : Nat) : Int) = n by omega]
    | succ d ih =>
      intro hz
      rw [show n + ((d + 1 : Nat) : Int) = n + (d : Int) + 1 by omega, sg_s (by omega), ih (fun k h1 h2 => hz k h1 (by omega)), hz (n + d) (by omega) (by omega), Int.add_zero]
  have := key (n' - n).toNat (fun k h1 h2 => hk k h1 (by omega))
  rw [show n + (((n' - n).toNat : Nat) : Int) = n' by omega] at this
  exact this
/-- what a row's cells are -/
theorem row_of {W Y k : Int} (hW : 1 ≤ W) (h1 : Y * W ≤ k) (h2 : k < (Y + 1) * W) : k / W = Y ∧ k % W = k - Y * W := by
  have e : (Y + 1) * W = Y * W + W := by rw [Int.add_mul, Int.one_mul]
  have d := div_uniq (w := W) (x := k - Y * W) (y := Y) (by omega) (by omega)
  rw [show Y * W + (k - Y * W) = k by omega] at d
  exact d
theorem row_lt {W Y k : Int} (hW : 1 ≤ W) (h2 : k < Y * W) : k / W < Y := Int.ediv_lt_of_lt_mul (by omega) h2
theorem row_ge {W Y k : Int} (hW : 1 ≤ W) (h2 : Y * W ≤ k) : Y ≤ k / W := Int.le_ediv_of_mul_le (by omega) h2
def mn (a b : Int) : Int := if a ≤ b then a else b
theorem mn_le {a b : Int} : mn a b ≤ a ∧ mn a b ≤ b ∧ (mn a b = a ∨ mn a b = b) := by
  unfold mn
  split <;> omega
theorem RW_eqS {S S' : S9} {h : zH} {w : Int} (e : ∀ f j, S' f j = S f j) (a : RW S h w) : RW S' h w := by
  unfold RW at a ⊢
  simp only [e]
  exact a
theorem drawI_eq {S : S9} {w x y a b c k j : Int} {f : Nat} (h : 0 ≤ k ∧ inR (S 7 w) x y a b k) (hc : S 14 (96 * w + k) = c) : drawI S w x y a b c (k + 1) f j = drawI S w x y a b c k f j := by
  rw [drawI_st h]
  by_cases e : f = 14 ∧ j = 96 * w + k
  · obtain ⟨rfl, rfl⟩ := e
    rw [up_eq]
    unfold drawI
    rw [if_neg (by omega), hc]
  · exact if_neg e
