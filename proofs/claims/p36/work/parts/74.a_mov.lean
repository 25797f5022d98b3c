/-! a session's transfer -/
def RT (S : S9) (h : zH) (s : Int) : Prop := (zK h (nS s + 6) = 8 ∧ zr h 700 (nS s + 6) = some (nS s + 7) ∧ zr h 701 (nS s + 6) = some (nS s + 8) ∧ zf h 702 (nS s + 6) = S 26 s ∧ zf h 703 (nS s + 6) = S 28 s) ∧ (zK h (nS s + 7) = 100 ∧ zN h (nS s + 7) = 96 ∧ ∀ p, 0 ≤ p → p < 96 → za h (nS s + 7) p = S 30 (96 * s + p)) ∧ zK h (nS s + 8) = 101 ∧ zN h (nS s + 8) = 8 ∧ ∀ r, 0 ≤ r → r < 8 → za h (nS s + 8) r = S 29 (8 * s + r)
theorem RT_at {S : S9} {h h' : zH} {s : Int} (e6 : eqAt (nS s + 6) h h') (e7 : eqAt (nS s + 7) h h') (e8 : eqAt (nS s + 8) h h') (a : RT S h s) : RT S h' s := by
  obtain ⟨b1, -, b3, -, b5, -⟩ := e6
  obtain ⟨c1, c2, -, c4, -⟩ := e7
  obtain ⟨d1, d2, -, d4, -⟩ := e8
  unfold RT at a ⊢
  simp only [b1, b3, b5, c1, c2, c4, d1, d2, d4]
  exact a
/-- the row looks otherwise than it was copied -/
def otN (S : S9) (s r : Int) : Nat → Int
  | 0 => 0
  | n + 1 => b2 (otN S s r n = 1 ∨ S 30 (96 * s + (r * 12 + n)) ≠ screenAt S s (r * 12 + n))
theorem otN_s (S : S9) (s r : Int) (n : Nat) : otN S s r (n + 1) = b2 (otN S s r n = 1 ∨ S 30 (96 * s + (r * 12 + n)) ≠ screenAt S s (r * 12 + n)) := rfl
theorem otN_01 {S : S9} {s r : Int} : ∀ n : Nat, otN S s r n = 0 ∨ otN S s r n = 1
  | 0 => Or.inl rfl
  | _ + 1 => b2_01
theorem otN_mono {S : S9} {s r : Int} {n : Nat} (h : otN S s r n = 1) : ∀ m : Nat, otN S s r (n + m) = 1
  | 0 => h
  | m + 1 => by
    show otN S s r (n + m + 1) = 1
    rw [otN_s]
    exact b2_t (Or.inl (otN_mono h m))
theorem isLN_ot {S : S9} {s r : Int} : ∀ n : Nat, isLN S s r n = b2 (¬ S 29 (8 * s + r) = 1 ∨ otN S s r n = 1)
  | 0 => by
    have e0 : otN S s r 0 = 0 := rfl
    show b2 (¬ S 29 (8 * s + r) = 1) = b2 (¬ S 29 (8 * s + r) = 1 ∨ otN S s r 0 = 1)
    by_cases z : S 29 (8 * s + r) = 1
    · exact (b2_f (by omega)).trans (b2_f (by omega)).symm
    · exact (b2_t z).trans (b2_t (Or.inl z)).symm
  | n + 1 => by
    rw [isLN_s, isLN_ot n, otN_s]
    by_cases y : S 30 (96 * s + (r * 12 + n)) ≠ screenAt S s (r * 12 + n)
    · rw [b2_t (Or.inr y), b2_t (p := otN S s r n = 1 ∨ _) (Or.inr y), b2_t (Or.inr rfl)]
    · by_cases z : S 29 (8 * s + r) = 1
      · by_cases x : otN S s r n = 1
        · rw [b2_t (p := ¬ _ ∨ otN S s r n = 1) (Or.inr x), b2_t (p := otN S s r n = 1 ∨ _) (Or.inl x), b2_t (Or.inl rfl), b2_t (Or.inr rfl)]
        · rw [b2_f (p := ¬ _ ∨ otN S s r n = 1) (by omega), b2_f (p := otN S s r n = 1 ∨ _) (by omega), b2_f (by omega), b2_f (by omega)]
      · rw [b2_t (p := ¬ _ ∨ otN S s r n = 1) (Or.inl z), b2_t (Or.inl rfl), b2_t (Or.inl z)]
theorem isL_ot {S : S9} {s r : Int} : isL S s r = b2 (¬ S 29 (8 * s + r) = 1 ∨ otN S s r 12 = 1) := isLN_ot 12
