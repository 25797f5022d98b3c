/-! how a refusal and an answer of Remotepane reach a helper -/
theorem QC_l {S S' : S9} {h h' : zH} {k : Int} {xs : List String} {v : zV} {u : Option zV} (q : QC S h k xs v S' (.inl u) h') : (∀ m, (m = 6 ∨ m = 7 ∨ (99 ≤ m ∧ m ≤ 142)) → eqAt m h h') ∧ k = 0 ∧ u = some v ∧ RC S' h' := by
  obtain ⟨q1, ⟨q2, q3, q4⟩ | ⟨q2, ⟨E, q3, q5⟩, q4⟩⟩ := q
  · exact ⟨q1, q2, Sum.inl.inj q3, q4⟩
  · cases q5
theorem QC_r {S S' : S9} {h h' : zH} {k : Int} {xs : List String} {v : zV} {E : String} (q : QC S h k xs v S' (.inr E) h') : (∀ m, (m = 6 ∨ m = 7 ∨ (99 ≤ m ∧ m ≤ 142)) → eqAt m h h') ∧ 0 < k ∧ xs[(k - 1).toNat]? = some E ∧ RC S h' := by
  obtain ⟨q1, ⟨q2, q3, q4⟩ | ⟨q2, ⟨F, q3, q5⟩, q4⟩⟩ := q
  · cases q3
  · cases q5
    exact ⟨q1, q2, q3, q4⟩
theorem xs1 {a E : String} {n : Nat} (h : [a][n]? = some E) : n = 0 ∧ a = E := by
  match n, h with
  | 0, h => exact ⟨rfl, Option.some.inj h⟩
theorem xs2 {a b E : String} {n : Nat} (h : [a, b][n]? = some E) : (n = 0 ∧ a = E) ∨ (n = 1 ∧ b = E) := by
  match n, h with
  | 0, h => exact Or.inl ⟨rfl, Option.some.inj h⟩
  | 1, h => exact Or.inr ⟨rfl, Option.some.inj h⟩
theorem xs3 {a b c E : String} {n : Nat} (h : [a, b, c][n]? = some E) : (n = 0 ∧ a = E) ∨ (n = 1 ∧ b = E) ∨ (n = 2 ∧ c = E) := by
  match n, h with
  | 0, h => exact Or.inl ⟨rfl, Option.some.inj h⟩
  | 1, h => exact Or.inr (Or.inl ⟨rfl, Option.some.inj h⟩)
  | 2, h => exact Or.inr (Or.inr ⟨rfl, Option.some.inj h⟩)
theorem xs4 {a b c d E : String} {n : Nat} (h : [a, b, c, d][n]? = some E) : (n = 0 ∧ a = E) ∨ (n = 1 ∧ b = E) ∨ (n = 2 ∧ c = E) ∨ (n = 3 ∧ d = E) := by
  match n, h with
  | 0, h => exact Or.inl ⟨rfl, Option.some.inj h⟩
  | 1, h => exact Or.inr (Or.inl ⟨rfl, Option.some.inj h⟩)
  | 2, h => exact Or.inr (Or.inr (Or.inl ⟨rfl, Option.some.inj h⟩))
  | 3, h => exact Or.inr (Or.inr (Or.inr ⟨rfl, Option.some.inj h⟩))
