/-! the line -/
theorem IC_ag {S S' : S9} (h : ∀ f, (f = 1 ∨ f = 2 ∨ f = 35) → ∀ j, S' f j = S f j) (a : IC S) : IC S' := by
  intro c h0 h1
  rw [h 2 (by omega)] at h1
  have := a c h0 h1
  rw [h 35 (by omega), h 1 (by omega)]
  exact this
theorem IK_ag {S S' : S9} (h : ∀ f, (f = 2 ∨ f = 4 ∨ f = 7 ∨ f = 8 ∨ f = 17 ∨ f = 18 ∨ f = 20 ∨ f = 21) → ∀ j, S' f j = S f j) (a : IK S) : IK S' := by
  intro s k h0 h1 h2 h3
  rw [h 17 (by omega)] at h3
  have := a s k h0 h1 h2 h3
  unfold IK1 at this ⊢
  simp only [hasW, h 18 (by omega), h 20 (by omega), h 21 (by omega), h 2 (by omega), h 4 (by omega), h 7 (by omega), h 8 (by omega)] at this ⊢
  exact this
def JJ (S : S9) : Prop := IN S ∧ IW S ∧ IO S ∧ IC S ∧ IK S
/-- the rows that JJ speaks of -/
def jF (f : Nat) : Prop := f = 1 ∨ f = 2 ∨ (4 ≤ f ∧ f ≤ 10) ∨ (15 ≤ f ∧ f ≤ 18) ∨ f = 20 ∨ f = 21 ∨ f = 35
theorem JJ_ag {S S' : S9} (h : ∀ f, jF f → ∀ j, S' f j = S f j) (a : JJ S) : JJ S' :=
  ⟨IN_ag (fun f hf => h f (by unfold jF; omega)) a.1, IW_ag (fun f h1 h2 => h f (by unfold jF; omega)) a.2.1, IO_ag (fun f hf => h f (by unfold jF; omega)) a.2.2.1, IC_ag (fun f hf => h f (by unfold jF; omega)) a.2.2.2.1, IK_ag (fun f hf => h f (by unfold jF; omega)) a.2.2.2.2⟩
def payS (S : S9) (c : Int) : S9 := up S 37 c (if (bstC S c).2.1 < S 37 c then S 37 c - (bstC S c).2.1 else 0)
def sendS (S : S9) (c : Int) : S9 := chgS (payS S c) c (Pc S c) (Rc S c) (bstC S c) (fstC S c)
theorem chgS_f {S : S9} {c : Int} {P R : Int → Int} {b : T6} {p j : Int} {f : Nat} (h : f ≠ 40) : chgS S c P R b p f j = S f j := if_neg (fun z => h z.1)
theorem sendS_f {S : S9} {c j : Int} {f : Nat} (h : f ≠ 37 ∧ f ≠ 40) : sendS S c f j = S f j := by
  unfold sendS payS
  rw [chgS_f h.2, up_f h.1]
/-- the client that is chosen among the first n -/
def chN (S : S9) (left : Int) : Nat → Int
  | 0 => -1
  | n + 1 => if (chN S left n < 0 ∨ S 37 (chN S left n) < S 37 n) ∧ hasN S n ∧ (bstC S n).2.1 ≤ left then n else chN S left n
theorem chN_in (S : S9) (left : Int) : ∀ n : Nat, chN S left n = -1 ∨ (0 ≤ chN S left n ∧ chN S left n < n ∧ hasN S (chN S left n) ∧ (bstC S (chN S left n)).2.1 ≤ left)
  | 0 => Or.inl rfl
  | n + 1 => by
    unfold chN
    split
    · rename_i e
      exact Or.inr ⟨by omega, by omega, e.2⟩
    · rcases chN_in S left n with z | z
      · exact Or.inl z
      · exact Or.inr ⟨z.1, by omega, z.2.2⟩
def lineS (S : S9) (left : Int) : Nat → S9 × Int
  | 0 => (S, left)
  | f + 1 => if chN S left (S 2 0).toNat < 0 then (S, left) else lineS (sendS S (chN S left (S 2 0).toNat)) (left - (bstC S (chN S left (S 2 0).toNat)).2.1) f
theorem lineS_s (S : S9) (left : Int) (f : Nat) : lineS S left (f + 1) = if chN S left (S 2 0).toNat < 0 then (S, left) else lineS (sendS S (chN S left (S 2 0).toNat)) (left - (bstC S (chN S left (S 2 0).toNat)).2.1) f := rfl
theorem chN_s (S : S9) (left : Int) (n : Nat) : chN S left (n + 1) = if (chN S left n < 0 ∨ S 37 (chN S left n) < S 37 n) ∧ hasN S n ∧ (bstC S n).2.1 ≤ left then (n : Int) else chN S left n := rfl
theorem bstC_ok {S : S9} {c : Int} (h : hasN S c) : okT (fstC S c) (bstC S c) ∧ 3 ≤ (bstC S c).2.1 ∧ (bstC S c).2.1 ≤ 20 := by
  have h1 := bst_ok (P := Pc S c) (R := Rc S c) h
  refine ⟨h1.1, h1.2, ?_⟩
  rcases h1.1 with z | z
  · have := h1.2
    omega
  · exact z.1.2.1
