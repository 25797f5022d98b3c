theorem tkO_16 {S : S9} {s p : Int} : tkO S s p 16 s = S 16 s - 1 := by
  unfold tkO
  rw [if_neg (by omega), if_pos ⟨rfl, rfl⟩]
theorem tkO_f {S : S9} {s p j : Int} {f : Nat} (h1 : f ≠ 15) (h2 : f ≠ 16) : tkO S s p f j = S f j := by
  unfold tkO
  rw [if_neg (by omega), if_neg (by omega)]
/-- equal on the windows' rows -/
def agW (S S' : S9) : Prop := ∀ f, 5 ≤ f → f ≤ 16 → ∀ j, S' f j = S f j
theorem cellAt_ag {S S' : S9} (h : agW S S') (w p : Int) : cellAt S' w p = cellAt S w p := by
  unfold cellAt
  rw [h 5 (by omega) (by omega), h 6 (by omega) (by omega), h 7 (by omega) (by omega), h 8 (by omega) (by omega)]
theorem topAtN_ag {S S' : S9} (h : agW S S') (s p : Int) : ∀ n : Nat, topAtN S' s p n = topAtN S s p n
  | 0 => rfl
  | n + 1 => by
    unfold topAtN
    rw [h 15 (by omega) (by omega), h 11 (by omega) (by omega), cellAt_ag h, topAtN_ag h s p n]
theorem topAt_ag {S S' : S9} (h : agW S S') (s p : Int) : topAt S' s p = topAt S s p := by
  unfold topAt
  rw [h 16 (by omega) (by omega), topAtN_ag h]
theorem screenAt_ag {S S' : S9} (h : agW S S') (s p : Int) : screenAt S' s p = screenAt S s p := by
  unfold screenAt
  rw [topAt_ag h, cellAt_ag h, h 14 (by omega) (by omega)]
theorem placeOf_ag {S S' : S9} (h : agW S S') (w c : Int) : placeOf S' w c = placeOf S w c := by
  unfold placeOf
  rw [h 5 (by omega) (by omega), h 6 (by omega) (by omega), h 7 (by omega) (by omega)]
theorem sg_0 {f : Int → Int} : sg f (0 : Int).toNat = 0 := rfl
theorem sg_s {f : Int → Int} {i : Int} (h : 0 ≤ i) : sg f (i + 1).toNat = sg f i.toNat + f i := by
  rw [show (i + 1).toNat = i.toNat + 1 by omega]
  show sg f i.toNat + f (i.toNat : Int) = _
  rw [show ((i.toNat : Nat) : Int) = i by omega]
theorem sg_in1 {f : Int → Int} (h : ∀ i, 0 ≤ i → 0 ≤ f i ∧ f i ≤ 1) (i : Int) (h0 : 0 ≤ i) : 0 ≤ sg f i.toNat ∧ sg f i.toNat ≤ i := by
  have := sg_in (a := 1) (by decide) h i.toNat
  omega
theorem b2_le {p : Prop} [Decidable p] : 0 ≤ b2 p ∧ b2 p ≤ 1 := by rcases b2_01 (p := p) with h | h <;> omega
abbrev inR (W x y a b k : Int) : Prop := (x ≤ k % W ∧ k % W ≤ x + a - 1) ∧ y ≤ k / W ∧ k / W ≤ y + b - 1
/-- a rectangle of a window drawn, as far as the cell n -/
def drawI (S : S9) (w x y a b c n : Int) : S9 := fun f j => if f = 14 ∧ 96 * w ≤ j ∧ j < 96 * w + n ∧ inR (S 7 w) x y a b (j - 96 * w) then c else S f j
def drawS (S : S9) (w x y a b c : Int) : S9 := drawI S w x y a b c (S 7 w * S 8 w)
def drawN (S : S9) (w x y a b c : Int) : Int := sg (fun k => b2 (inR (S 7 w) x y a b k ∧ S 14 (96 * w + k) ≠ c)) (S 7 w * S 8 w).toNat
def movS (S : S9) (w x y : Int) : S9 := up (up S 5 w x) 6 w y
def movN (S S' : S9) (s : Int) : Int := sg (fun p => b2 (screenAt S' s p ≠ screenAt S s p)) (96 : Int).toNat
theorem screen_in {S : S9} {h : zH} {s p : Int} (hM : RM S h) (G : zG h) : zin (screenAt S s p) := by
  unfold screenAt
  split
  · exact zin_0
  · rw [← (hM.2.2.2 14 (by omega) (by omega)).2.2.2 (by omega)]
    exact G.2.1 _ _
theorem IN_ag {S S' : S9} (h : ∀ f, (f = 1 ∨ f = 2 ∨ f = 4 ∨ f = 16 ∨ f = 17) → ∀ j, S' f j = S f j) (a : IN S) : IN S' := by
  unfold IN at a ⊢
  simp only [h 1 (by omega), h 2 (by omega), h 4 (by omega), h 16 (by omega), h 17 (by omega)]
  exact a
theorem IN_up {S : S9} {f : Nat} {i v : Int} (a : IN S) (h : f ≠ 1 ∧ f ≠ 2 ∧ f ≠ 4 ∧ f ≠ 16 ∧ f ≠ 17) : IN (up S f i v) := IN_ag (fun g hg j => up_f (by omega)) a
theorem posO_ag {S S' : S9} {s w p : Int} (h : ∀ f, (f = 15 ∨ f = 16) → ∀ j, S' f j = S f j) (a : posO S s w p) : posO S' s w p := by
  unfold posO at a ⊢
  simp only [h 15 (by omega), h 16 (by omega)]
  exact a
theorem posO_up {S : S9} {s w p : Int} {f : Nat} {i v : Int} (a : posO S s w p) (h : f ≠ 15 ∧ f ≠ 16) : posO (up S f i v) s w p := posO_ag (fun g hg j => up_f (by omega)) a
theorem IO_ag {S S' : S9} (h : ∀ f, (f = 4 ∨ f = 10 ∨ f = 15 ∨ f = 16) → ∀ j, S' f j = S f j) (a : IO S) : IO S' := by
  intro s i h0 h1 h2 h3
  rw [h 16 (by omega)] at h3
  have := a s i h0 h1 h2 h3
  simp only [hasW, h 15 (by omega), h 10 (by omega), h 4 (by omega)]
  exact this
theorem IW_ag {S S' : S9} (h : ∀ f, 4 ≤ f → f ≤ 9 → ∀ j, S' f j = S f j) (a : IW S) : IW S' := by
  intro s w hw
  simp only [hasW, h 4 (by omega) (by omega)] at hw
  have := a s w hw
  unfold IW1 at this ⊢
  simp only [h 5 (by omega) (by omega), h 6 (by omega) (by omega), h 7 (by omega) (by omega), h 8 (by omega) (by omega), h 9 (by omega) (by omega)]
  exact this
theorem movS_IW {S : S9} {w x y : Int} (a : IW S) (hx : -5 ≤ x ∧ x ≤ 11) (hy : -5 ≤ y ∧ y ≤ 7) : IW (movS S w x y) := by
  intro s v hv
  have e4 : ∀ j, movS S w x y 4 j = S 4 j := fun j => by unfold movS; rw [up_f (by omega), up_f (by omega)]
  simp only [hasW, e4] at hv
  have := a s v hv
  unfold IW1 at this ⊢
  have e5 : movS S w x y 5 v = if v = w then x else S 5 v := by unfold movS; rw [up_f (by omega), up_at]
  have e6 : movS S w x y 6 v = if v = w then y else S 6 v := by unfold movS; rw [up_at, up_f (by omega)]
  have e7 : movS S w x y 7 v = S 7 v := by unfold movS; rw [up_f (by omega), up_f (by omega)]
  have e8 : movS S w x y 8 v = S 8 v := by unfold movS; rw [up_f (by omega), up_f (by omega)]
  have e9 : movS S w x y 9 v = S 9 v := by unfold movS; rw [up_f (by omega), up_f (by omega)]
  rw [e5, e6, e7, e8, e9]
  split <;> omega
theorem drawI_st {S : S9} {w x y a b c k j : Int} {f : Nat} (h : 0 ≤ k ∧ inR (S 7 w) x y a b k) : drawI S w x y a b c (k + 1) f j = up (drawI S w x y a b c k) 14 (96 * w + k) c f j := by
  unfold up drawI
  by_cases e : f = 14 ∧ j = 96 * w + k
  · obtain ⟨rfl, rfl⟩ := e
    rw [if_pos ⟨rfl, by omega, by omega, by rw [show 96 * w + k - 96 * w = k by omega]; exact h.2⟩, if_pos ⟨rfl, rfl⟩]
  · rw [if_neg e]
    by_cases e2 : f = 14 ∧ 96 * w ≤ j ∧ j < 96 * w + k ∧ inR (S 7 w) x y a b (j - 96 * w)
    · rw [if_pos e2, if_pos ⟨e2.1, e2.2.1, by omega, e2.2.2.2⟩]
    · rw [if_neg e2, if_neg (fun z => e2 ⟨z.1, z.2.1, by omega, z.2.2.2⟩)]
theorem drawI_no {S : S9} {w x y a b c k j : Int} {f : Nat} (h : ¬ inR (S 7 w) x y a b k) : drawI S w x y a b c (k + 1) f j = drawI S w x y a b c k f j := by
  unfold drawI
  by_cases e2 : f = 14 ∧ 96 * w ≤ j ∧ j < 96 * w + k ∧ inR (S 7 w) x y a b (j - 96 * w)
  · rw [if_pos e2, if_pos ⟨e2.1, e2.2.1, by omega, e2.2.2.2⟩]
  · rw [if_neg e2, if_neg]
    rintro ⟨z1, z2, z3, z4⟩
    by_cases e : j = 96 * w + k
    · subst e
      rw [show 96 * w + k - 96 * w = k by omega] at z4
      exact h z4
    · exact e2 ⟨z1, z2, by omega, z4⟩
