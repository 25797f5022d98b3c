/-! a session's keys -/
def RKey (S : S9) (h : zH) (s k : Int) (n : Nat) : Prop := zK h n = 5 ∧ zr h 400 n = some (nC (S 21 (20 * s + k))) ∧ zr h 401 n = some (nW (S 18 (20 * s + k))) ∧ zf h 402 n = S 20 (20 * s + k) ∧ zf h 403 n = S 19 (20 * s + k)
/-- its list, its row ed, its capacity cp, its keys' names kn -/
def RKx (S : S9) (h : zH) (s : Int) (ed : Nat) (cp : Int) (kn : Int → Nat) : Prop := LA h (nS s + 3) ed cp (S 17 s) (fun i => some (kn i)) ∧ ((ed = 0 ∧ zK h (nS s + 16) = 0 ∧ zK h (nS s + 17) = 0 ∧ zK h (nS s + 18) = 0) ∨ (ed = nS s + 16 ∧ cp = 10 ∧ zK h (nS s + 17) = 0 ∧ zK h (nS s + 18) = 0) ∨ (ed = nS s + 17 ∧ cp = 15 ∧ zK h (nS s + 18) = 0) ∨ (ed = nS s + 18 ∧ cp = 22)) ∧ ∀ k, 0 ≤ k → k < S 17 s → 10000 ≤ kn k ∧ RKey S h s k (kn k)
theorem RKey_at {S : S9} {h h' : zH} {s k : Int} {n : Nat} (e : eqAt n h h') (a : RKey S h s k n) : RKey S h' s k n := by
  obtain ⟨b1, -, b3, -, b5, -⟩ := e
  unfold RKey at a ⊢
  simp only [b1, b3, b5]
  exact a
theorem RKx_at {S : S9} {h h' : zH} {s : Int} {ed : Nat} {cp : Int} {kn : Int → Nat} (e3 : eqAt (nS s + 3) h h') (e4 : eqAt (nS s + 16) h h') (e5 : eqAt (nS s + 17) h h') (e6 : eqAt (nS s + 18) h h') (e : ∀ m, 10000 ≤ m → eqAt m h h') (a : RKx S h s ed cp kn) : RKx S h' s ed cp kn := by
  obtain ⟨a1, a2, a3⟩ := a
  refine ⟨LA_at e3 (fun z => ?_) a1, ?_, fun k k0 k1 => ⟨(a3 k k0 k1).1, RKey_at (e _ (a3 k k0 k1).1) (a3 k k0 k1).2⟩⟩
  · rcases a2 with y | y | y | y
    · omega
    · rw [y.1]; exact e4
    · rw [y.1]; exact e5
    · rw [y.1]; exact e6
  · rw [e4.1, e5.1, e6.1]
    exact a2
theorem nC_i {a b : Int} (ha : 0 ≤ a) (hb : 0 ≤ b) (e : some (nC a) = some (nC b)) : a = b := by
  have e := Option.some.inj e
  unfold nC at e
  omega
theorem nC_e {a b : Int} (e : a = b) : some (nC a) = some (nC b) := by rw [e]
/-- the last key of client c that falls at place p, -1 if there is none -/
def lastK (S : S9) (c s p : Int) : Nat → Int
  | 0 => -1
  | n + 1 => if S 21 (20 * s + n) = c ∧ placeOf S (S 18 (20 * s + n)) (S 20 (20 * s + n)) = p then (n : Int) else lastK S c s p n
theorem lastK_s (S : S9) (c s p : Int) (n : Nat) : lastK S c s p (n + 1) = if S 21 (20 * s + n) = c ∧ placeOf S (S 18 (20 * s + n)) (S 20 (20 * s + n)) = p then (n : Int) else lastK S c s p n := rfl
theorem lastK_in (S : S9) (c s p : Int) : ∀ n : Nat, -1 ≤ lastK S c s p n ∧ lastK S c s p n < n
  | 0 => ⟨Int.le_refl _, by show (-1 : Int) < _; omega⟩
  | n + 1 => by
    have := lastK_in S c s p n
    rw [lastK_s]
    split <;> omega
theorem seen_lastK (S : S9) (c s p v : Int) : ∀ n : Nat, seenN S c s p v n = if lastK S c s p n < 0 then v else S 19 (20 * s + lastK S c s p n)
  | 0 => by
    show v = _
    rw [if_pos (by show (-1 : Int) < 0; decide)]
  | n + 1 => by
    rw [lastK_s]
    show (if _ then _ else _) = _
    by_cases z : S 21 (20 * s + n) = c ∧ placeOf S (S 18 (20 * s + n)) (S 20 (20 * s + n)) = p
    · rw [if_pos z, if_pos z, if_neg (by omega)]
    · rw [if_neg z, if_neg z]
      exact seen_lastK S c s p v n
def kRef (kn : Int → Nat) (i : Int) : Option Nat := if i < 0 then none else some (kn i)
