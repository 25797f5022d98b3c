theorem kRef_none {kn : Int → Nat} {i : Int} (h : kRef kn i = none) : i < 0 := by
  unfold kRef at h
  split at h
  · assumption
  · cases h
theorem kRef_some {kn : Int → Nat} {i : Int} {n : Nat} (h : kRef kn i = some n) : 0 ≤ i ∧ n = kn i := by
  unfold kRef at h
  split at h
  · cases h
  · cases h
    exact ⟨by omega, rfl⟩
