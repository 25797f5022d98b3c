/-! a session's picture -/
theorem LA_at {h h' : zH} {n ed : Nat} {cp len : Int} {q : Int → Option Nat} (h1 : eqAt n h h') (h2 : 0 < ed → eqAt ed h h') (a : LA h n ed cp len q) : LA h' n ed cp len q := by
  obtain ⟨b1, -, b3, -, b5, -⟩ := h1
  obtain ⟨a1, a2, a3, a4, a5, a6⟩ := a
  refine ⟨by rw [b1, a1], by rw [b5, a2], by rw [b3, a3], a4, ?_, fun i i0 i1 => ?_⟩
  · rcases a5 with z | ⟨z1, z2, z3, z4⟩
    · exact Or.inl z
    · obtain ⟨c1, c2, -⟩ := h2 z1
      exact Or.inr ⟨z1, z2, by rw [c1, z3], by rw [c2, z4]⟩
  · rcases a5 with z | ⟨z1, z2, z3, z4⟩
    · omega
    · obtain ⟨c1, c2, c3, c4, c5, c6, -⟩ := h2 z1
      rw [c6]
      exact a6 i i0 i1
/-- the session's own fields -/
def RSo (S : S9) (h : zH) (s : Int) : Prop := zK h (nS s) = 7 ∧ zr h 600 (nS s) = some (nS s + 1) ∧ zr h 601 (nS s) = some (nS s + 2) ∧ zr h 602 (nS s) = some (nS s + 3) ∧ zr h 603 (nS s) = some (nS s + 4) ∧ zr h 604 (nS s) = some (nS s + 5) ∧ zr h 605 (nS s) = some (nS s + 6) ∧ zr h 606 (nS s) = (if S 31 s = 1 then some (nS s + 9) else none) ∧ zf h 607 (nS s) = S 4 s
theorem RSo_at {S : S9} {h h' : zH} {s : Int} (h1 : eqAt (nS s) h h') (a : RSo S h s) : RSo S h' s := by
  obtain ⟨b1, -, b3, -, b5, -⟩ := h1
  unfold RSo at a ⊢
  simp only [b1, b3, b5]
  exact a
def pileQ (S : S9) (s : Int) : Int → Option Nat := fun i => some (nW (S 15 (6 * s + i)))
/-- its pile -/
def RP (S : S9) (h : zH) (s : Int) : Prop := ∃ (ed : Nat) (cp : Int), LA h (nS s + 2) ed cp (S 16 s) (pileQ S s) ∧ ((ed = 0 ∧ zK h (nS s + 15) = 0) ∨ (ed = nS s + 15 ∧ cp = 10))
theorem RP_at {S : S9} {h h' : zH} {s : Int} (h1 : eqAt (nS s + 2) h h') (h2 : eqAt (nS s + 15) h h') (a : RP S h s) : RP S h' s := by
  obtain ⟨ed, cp, a1, a2⟩ := a
  refine ⟨ed, cp, LA_at h1 (fun z => ?_) a1, a2.elim (fun y => Or.inl ⟨y.1, h2.1.trans y.2⟩) Or.inr⟩
  rcases a2 with y | y
  · omega
  · rw [y.1]
    exact h2
/-- its windows -/
def RWs (S : S9) (h : zH) (s : Int) : Prop := ∀ w, hasW S s w → RW S h w
theorem RWs_at {S : S9} {h h' : zH} {s : Int} (h1 : ∀ w, hasW S s w → eqAt (nW w) h h' ∧ eqAt (nW w + 1) h h') (a : RWs S h s) : RWs S h' s := fun w hw => RW_at (h1 w hw).1 (h1 w hw).2 (a w hw)
/-- its screen's row -/
def RCo (h : zH) (s : Int) (q : Int → Int) : Prop := zK h (nS s + 4) = 100 ∧ zN h (nS s + 4) = 96 ∧ ∀ p, 0 ≤ p → p < 96 → za h (nS s + 4) p = q p
/-- all that reading a screen needs -/
def RV (S : S9) (h : zH) (s : Int) : Prop := (0 ≤ s ∧ s < 4) ∧ IN S ∧ IW S ∧ IO S ∧ RSo S h s ∧ RP S h s ∧ RWs S h s
theorem RV_at {S : S9} {h h' : zH} {s : Int} (h1 : ∀ m, m ≠ nS s + 4 → eqAt m h h') (a : RV S h s) : RV S h' s := by
  obtain ⟨a0, a1, a2, a3, a4, a5, a6⟩ := a
  refine ⟨a0, a1, a2, a3, RSo_at (h1 _ (by omega)) a4, RP_at (h1 _ (by omega)) (h1 _ (by omega)) a5, RWs_at (fun w hw => ?_) a6⟩
  have hn := a1.2.2.2.2 s a0.1 a0.2
  unfold nW nS at *
  exact ⟨h1 _ (by omega), h1 _ (by omega)⟩
theorem cov_cell {S : S9} {w x y : Int} (hx : 0 ≤ x ∧ x ≤ 11) : ((S 5 w ≤ x ∧ x < S 5 w + S 7 w) ∧ S 6 w ≤ y ∧ y < S 6 w + S 8 w) → IW1 S w → 0 ≤ cellAt S w (12 * y + x) ∧ cellAt S w (12 * y + x) = (y - S 6 w) * S 7 w + (x - S 5 w) := by
  intro h hW
  have e1 : (12 * y + x) % 12 = x := by omega
  have e2 : (12 * y + x) / 12 = y := by omega
  unfold cellAt
  rw [e1, e2, if_pos (by omega)]
  refine ⟨?_, rfl⟩
  exact (cell_lt (W := S 7 w) (H := S 8 w) (by omega) (by omega) (by omega) (by omega)).1
theorem ncov_cell {S : S9} {w x y : Int} (hx : 0 ≤ x ∧ x ≤ 11) : ¬ ((S 5 w ≤ x ∧ x < S 5 w + S 7 w) ∧ S 6 w ≤ y ∧ y < S 6 w + S 8 w) → cellAt S w (12 * y + x) < 0 := by
  intro h
  have e1 : (12 * y + x) % 12 = x := by omega
  have e2 : (12 * y + x) / 12 = y := by omega
  unfold cellAt
  rw [e1, e2, if_neg (by omega)]
  decide
theorem topAtN_s (S : S9) (s p : Int) (n : Nat) : topAtN S s p (n + 1) = if S 11 (S 15 (6 * s + n)) = 1 ∧ 0 ≤ cellAt S (S 15 (6 * s + n)) p then S 15 (6 * s + n) else topAtN S s p n := rfl
theorem topOfN_s (S : S9) (s : Int) (n : Nat) : topOfN S s (n + 1) = if S 11 (S 15 (6 * s + n)) = 1 then S 15 (6 * s + n) else topOfN S s n := rfl
def wRef (w : Int) : Option Nat := if w < 0 then none else some (nW w)
