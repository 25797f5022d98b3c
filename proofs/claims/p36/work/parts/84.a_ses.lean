/-! a session's looks, its making; a client's making -/
theorem wRef_none {w : Int} (h : wRef w = none) : w < 0 := by
  unfold wRef at h
  split at h
  · assumption
  · cases h
theorem wRef_some {w : Int} {n : Nat} (h : wRef w = some n) : 0 ≤ w ∧ n = nW w := by
  unfold wRef at h
  split at h
  · cases h
  · cases h
    exact ⟨by omega, rfl⟩
theorem recR_none {S : S9} {s : Int} {n : Nat} (h : (if S 31 s = 1 then some n else none) = none) : ¬ S 31 s = 1 := by
  intro z
  rw [if_pos z] at h
  cases h
theorem recR_some {S : S9} {s : Int} {n m : Nat} (h : (if S 31 s = 1 then some n else none) = some m) : S 31 s = 1 ∧ m = n := by
  by_cases z : S 31 s = 1
  · rw [if_pos z] at h
    exact ⟨z, (Option.some.inj h).symm⟩
  · rw [if_neg z] at h
    cases h
theorem recS_no {S : S9} {s : Int} (h : ¬ (S 31 s = 1 ∧ S 32 s ≠ 60)) : recS S s = S := if_neg h
theorem recS_32 {S : S9} {s : Int} (h : S 31 s = 1 ∧ S 32 s ≠ 60) : recS S s 32 s = S 32 s + 1 := by
  unfold recS
  rw [if_pos h, up_eq]
theorem recS_33 {S : S9} {s : Int} (h : S 31 s = 1 ∧ S 32 s ≠ 60) : recS S s 33 s = S 33 s + sg (fun p => b2 (itsL S s p ≠ oldL S s p)) (96 : Int).toNat := by
  unfold recS
  rw [if_pos h, up_f (by decide), lokI_33]
theorem recS_old {S : S9} {s t p : Int} (h : S 31 s = 1 ∧ S 32 s ≠ 60) (t1 : t ≤ S 32 s) (p1 : p < 96) : recS S s 34 ((60 * s + (t - 1)) * 96 + p) = S 34 ((60 * s + (t - 1)) * 96 + p) := by
  unfold recS
  rw [if_pos h, up_f (by decide), lokI_old (by omega)]
theorem recS_new {S : S9} {s p : Int} (h : S 31 s = 1 ∧ S 32 s ≠ 60) (p0 : 0 ≤ p) (p1 : p < 96) : recS S s 34 ((60 * s + S 32 s) * 96 + p) = itsL S s p := by
  unfold recS
  rw [if_pos h, up_f (by decide)]
  unfold lokI
  rw [if_pos ⟨rfl, by omega, by omega⟩]
  congr 1
  omega
theorem RR_rec {S : S9} {h : zH} {s : Int} (t0 : 0 ≤ S 32 s) (hr : S 31 s = 1 ∧ S 32 s ≠ 60) (a : RRx (recS S s) h s (itsL S s) (S 33 s + sg (fun p => b2 (itsL S s p ≠ oldL S s p)) (96 : Int).toNat)) : RR (recS S s) h s := by
  refine RRx_eq (recS_33 hr) (fun p p0 p1 => ?_) rfl (fun _ _ _ _ _ _ => rfl) a
  unfold oldL
  rw [recS_32 hr, if_neg (by omega), show S 32 s + 1 - 1 = S 32 s by omega]
  exact recS_new hr p0 p1
/-- a session just made -/
def RS0 (h : zH) (s : Int) : Prop := (zK h (nS s) = 7 ∧ zr h 600 (nS s) = some (nS s + 1) ∧ zr h 601 (nS s) = some (nS s + 2) ∧ zr h 602 (nS s) = some (nS s + 3) ∧ zr h 603 (nS s) = some (nS s + 4) ∧ zr h 604 (nS s) = some (nS s + 5) ∧ zr h 605 (nS s) = some (nS s + 6) ∧ zr h 606 (nS s) = none ∧ zf h 607 (nS s) = 0 ∧ zf h 608 (nS s) = 0) ∧ (zK h (nS s + 1) = 106 ∧ zN h (nS s + 1) = 6) ∧ (zK h (nS s + 2) = 1 ∧ zr h 1 (nS s + 2) = some 0 ∧ zf h 2 (nS s + 2) = 0) ∧ (zK h (nS s + 3) = 1 ∧ zr h 1 (nS s + 3) = some 0 ∧ zf h 2 (nS s + 3) = 0) ∧ (zK h (nS s + 4) = 100 ∧ zN h (nS s + 4) = 96 ∧ ∀ p, za h (nS s + 4) p = 0) ∧ (zK h (nS s + 5) = 4 ∧ zf h 300 (nS s + 5) = -1) ∧ (zK h (nS s + 6) = 8 ∧ zr h 700 (nS s + 6) = some (nS s + 7) ∧ zr h 701 (nS s + 6) = some (nS s + 8) ∧ zf h 702 (nS s + 6) = 0 ∧ zf h 703 (nS s + 6) = 0) ∧ (zK h (nS s + 7) = 100 ∧ zN h (nS s + 7) = 96 ∧ ∀ p, za h (nS s + 7) p = 0) ∧ zK h (nS s + 8) = 101 ∧ zN h (nS s + 8) = 8 ∧ ∀ p, za h (nS s + 8) p = 0
