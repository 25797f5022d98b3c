/-! what a found change is; the line -/
def okT (p : Int) (b : T6) : Prop := b.2.1 = 0 ∨ ((3 ≤ b.2.1 ∧ b.2.1 ≤ 20 ∧ -100 ≤ b.2.2.1 ∧ b.2.2.1 ≤ 100) ∧ (b.1 = 99 ∨ b.1 = 102 ∨ b.1 = 114) ∧ (1 ≤ b.2.2.2.1 ∧ b.2.2.2.1 ≤ 12 ∧ 1 ≤ b.2.2.2.2.1 ∧ b.2.2.2.2.1 ≤ 8) ∧ vld (p % 12) (p / 12) b.2.2.2.1 b.2.2.2.2.1 ∧ (b.1 = 99 → ∃ dx dy : Int, b.2.2.2.2.2 = dy * 12 + dx ∧ vld (p % 12 + dx) (p / 12 + dy) b.2.2.2.1 b.2.2.2.2.1))
theorem okT_tr {p : Int} {b n : T6} (hb : okT p b) (hn : okT p n) : okT p (tr b n) := by
  unfold tr
  split
  · exact hn
  · exact hb
theorem okT_mk {p k c g w t fr : Int} (h1 : 3 ≤ c ∧ c ≤ 20) (h2 : -100 ≤ g ∧ g ≤ 100) (h3 : k = 99 ∨ k = 102 ∨ k = 114) (h4 : 1 ≤ w ∧ w ≤ 12 ∧ 1 ≤ t ∧ t ≤ 8) (h5 : vld (p % 12) (p / 12) w t) (h6 : k = 99 → ∃ dx dy : Int, fr = dy * 12 + dx ∧ vld (p % 12 + dx) (p / 12 + dy) w t) : okT p (k, c, g, w, t, fr) := Or.inr ⟨⟨h1.1, h1.2, h2.1, h2.2⟩, h3, h4, h5, h6⟩
theorem sg_pm24 {f : Int → Int} {w t : Int} (hf : ∀ i, 0 ≤ i → -1 ≤ f i ∧ f i ≤ 1) (h1 : 1 ≤ w) (h2 : w ≤ 12) (h3 : 1 ≤ t) (h4 : t ≤ 8) : -100 ≤ sg f (w * t).toNat ∧ sg f (w * t).toNat ≤ 100 := by
  have := area_le h1 h2 h3 h4
  have := sg_pm hf (w * t).toNat
  omega
theorem cpH_ok {P R : Int → Int} {p a w : Int} {b : T6} (h1 : 1 ≤ w) (h2 : w ≤ 12) (h : okT p b) : ∀ n : Nat, n ≤ 8 → okT p (cpH P R p a w b n)
  | 0, _ => h
  | n + 1, hn => by
    unfold cpH
    split
    · rename_i e
      refine okT_tr (cpH_ok h1 h2 h n (by omega)) (okT_mk (by decide) (sg_pm24 (fun _ _ => gn_in _ _ _ _) h1 h2 (by omega) (by omega)) (Or.inl rfl) (by omega) e.1 (fun _ => ⟨a % 5 - 2, a / 5 - 2, ?_, ?_⟩))
      · show (a / 5 - 2) * 12 + a % 5 - 2 = _
        omega
      · have := e.2
        exact ⟨⟨by omega, by omega⟩, by omega, by omega⟩
    · exact cpH_ok h1 h2 h n (by omega)
theorem cpW_ok {P R : Int → Int} {p a : Int} {b : T6} (h : okT p b) : ∀ n : Nat, n ≤ 5 → okT p (cpW P R p a b n)
  | 0, _ => h
  | n + 1, hn => by
    unfold cpW
    exact cpH_ok (by omega) (by omega) (cpW_ok h n (by omega)) 4 (by omega)
theorem cpA_ok {P R : Int → Int} {p : Int} {b : T6} (h : okT p b) : ∀ n : Nat, okT p (cpA P R p b n)
  | 0 => h
  | n + 1 => by
    unfold cpA
    split
    · exact cpA_ok h n
    · exact cpW_ok (cpA_ok h n) 5 (by omega)
theorem flH_ok {P R : Int → Int} {p w : Int} {b : T6} (h1 : 1 ≤ w) (h2 : w ≤ 12) (h : okT p b) : ∀ n : Nat, n ≤ 8 → okT p (flH P R p w b n)
  | 0, _ => h
  | n + 1, hn => by
    unfold flH
    split
    · rename_i e
      exact okT_tr (flH_ok h1 h2 h n (by omega)) (okT_mk (by decide) (sg_pm24 (fun _ _ => gn_in _ _ _ _) h1 h2 (by omega) (by omega)) (Or.inr (Or.inl rfl)) (by omega) e (fun z => absurd z (by decide)))
    · exact flH_ok h1 h2 h n (by omega)
theorem flW_ok {P R : Int → Int} {p : Int} {b : T6} (h : okT p b) : ∀ n : Nat, n ≤ 12 → okT p (flW P R p b n)
  | 0, _ => h
  | n + 1, hn => by
    unfold flW
    exact flH_ok (by omega) (by omega) (flW_ok h n (by omega)) 8 (by omega)
theorem fstR_ne {P R : Int → Int} : ∀ d : Nat, d ≤ 96 → fstR P R d < 96 → P (fstR P R d) ≠ R (fstR P R d)
  | 0, _, h => by unfold fstR at h; omega
  | d + 1, hd, h => by
    rw [fstR_s] at h ⊢
    split
    · rename_i e
      rw [if_pos e] at h
      exact fstR_ne d (by omega) h
    · rename_i e
      exact e
theorem runR_pos {P R : Int → Int} {p : Int} (hp : P p ≠ R p) : 1 ≤ run9 P R p := by
  have h9 : 0 < 12 - p % 12 := by omega
  unfold run9
  rw [show (12 - p % 12).toNat = (12 - p % 12 - 1).toNat + 1 by omega, runR_s]
  have e : 12 - p % 12 - ((((12 - p % 12 - 1).toNat : Nat) : Int) + 1) = 0 := by omega
  rw [e, Int.add_zero, if_neg hp]
  have := runR_in P R p (12 - p % 12 - 1).toNat (by omega)
  omega
/-- the change that is found is one -/
theorem bst_ok {P R : Int → Int} (h : fst9 P R < 96) : okT (fst9 P R) (bst P R) ∧ 3 ≤ (bst P R).2.1 := by
  have h1 := fst9_in P R
  have h2 := runR_pos (fstR_ne (P := P) (R := R) 96 (Nat.le_refl _) h)
  have h3 := run9_in P R (fst9 P R)
  have hz : okT (fst9 P R) (0, 0, 0, 0, 0, 0) := Or.inl rfl
  have h4 := flW_ok (P := P) (R := R) (cpA_ok (P := P) (R := R) hz 25) 12 (Nat.le_refl _)
  have h5 : okT (fst9 P R) (114, 2 + run9 P R (fst9 P R), run9 P R (fst9 P R), run9 P R (fst9 P R), 1, 0) := by
    have h6 : run9 P R (fst9 P R) = run9 P R (fstR P R 96) := rfl
    exact okT_mk (by omega) (by omega) (Or.inr (Or.inr rfl)) (by omega) (by omega) (fun z => absurd z (by decide))
  refine ⟨okT_tr h4 h5, ?_⟩
  unfold bst tr
  split
  · show 3 ≤ 2 + run9 P R (fst9 P R)
    have : run9 P R (fst9 P R) = run9 P R (fstR P R 96) := rfl
    omega
  · rename_i e
    rcases h4 with z | z
    · exact absurd (Or.inl z) e
    · exact z.1.1
/-- the row of a client's picture, and the screen that it looks at -/
abbrev Pc (S : S9) (c : Int) : Int → Int := fun q => S 40 (96 * c + q)
abbrev Rc (S : S9) (c : Int) : Int → Int := fun q => screenAt S (S 35 c) q
/-- the change that the client c gets next: is there one; its kind and cost -/
abbrev hasN (S : S9) (c : Int) : Prop := fst9 (Pc S c) (Rc S c) < 96
def bstC (S : S9) (c : Int) : T6 := bst (Pc S c) (Rc S c)
def fstC (S : S9) (c : Int) : Int := fst9 (Pc S c) (Rc S c)
/-- what a place of the picture becomes -/
def colC (P R : Int → Int) (b : T6) (p q : Int) : Int := if b.1 = 99 then P (q + b.2.2.2.2.2) else if b.1 = 102 then R p else R q
def inb (b : T6) (p q : Int) : Prop := (0 ≤ q % 12 - p % 12 ∧ q % 12 - p % 12 < b.2.2.2.1) ∧ 0 ≤ q / 12 - p / 12 ∧ q / 12 - p / 12 < b.2.2.2.2.1
/-- a picture changed as far as the cell k of the rectangle -/
def chgI (S : S9) (c : Int) (P R : Int → Int) (b : T6) (p k : Int) : S9 := fun f j => if f = 40 ∧ (96 * c ≤ j ∧ j < 96 * c + 96) ∧ ((0 ≤ (j - 96 * c) % 12 - p % 12 ∧ (j - 96 * c) % 12 - p % 12 < b.2.2.2.1) ∧ 0 ≤ (j - 96 * c) / 12 - p / 12 ∧ (j - 96 * c) / 12 - p / 12 < b.2.2.2.2.1) ∧ ((j - 96 * c) / 12 - p / 12) * b.2.2.2.1 + ((j - 96 * c) % 12 - p % 12) < k then colC P R b p (j - 96 * c) else S f j
def chgS (S : S9) (c : Int) (P R : Int → Int) (b : T6) (p : Int) : S9 := chgI S c P R b p (b.2.2.2.1 * b.2.2.2.2.1)
theorem div_uniq {w x y : Int} (h0 : 0 ≤ x) (h1 : x < w) : (y * w + x) / w = y ∧ (y * w + x) % w = x := by
  have hw : w ≠ 0 := by omega
  constructor
  · rw [Int.add_comm, Int.add_mul_ediv_right _ _ hw, Int.ediv_eq_zero_of_lt h0 h1, Int.zero_add]
  · rw [Int.add_comm, Int.add_mul_emod_self_right, Int.emod_eq_of_lt h0 h1]
theorem chgI_0 {S : S9} {c : Int} {P R : Int → Int} {b : T6} {p j : Int} {f : Nat} (h1 : 1 ≤ b.2.2.2.1) : chgI S c P R b p 0 f j = S f j := by
  unfold chgI
  rw [if_neg]
  rintro ⟨-, -, ⟨⟨z1, z2⟩, z3, z4⟩, z5⟩
  have := Int.mul_nonneg z3 (show 0 ≤ b.2.2.2.1 by omega)
  omega
theorem chgI_s {S : S9} {c : Int} {P R : Int → Int} {b : T6} {p k j : Int} {f : Nat} (hp : 0 ≤ p ∧ p < 96) (hk : 0 ≤ k) (hw : 1 ≤ b.2.2.2.1) (hv : vld (p % 12) (p / 12) b.2.2.2.1 b.2.2.2.2.1) (hkt : k / b.2.2.2.1 < b.2.2.2.2.1) :
    chgI S c P R b p (k + 1) f j = up (chgI S c P R b p k) 40 (96 * c + (p + k / b.2.2.2.1 * 12 + k % b.2.2.2.1)) (colC P R b p (p + k / b.2.2.2.1 * 12 + k % b.2.2.2.1)) f j := by
  have g1 : 0 ≤ k % b.2.2.2.1 := Int.emod_nonneg _ (by omega)
  have g2 : k % b.2.2.2.1 < b.2.2.2.1 := Int.emod_lt_of_pos _ (by omega)
  have g3 : 0 ≤ k / b.2.2.2.1 := Int.ediv_nonneg hk (by omega)
  have g4 : k / b.2.2.2.1 * b.2.2.2.1 + k % b.2.2.2.1 = k := by rw [Int.mul_comm]; exact Int.mul_ediv_add_emod k b.2.2.2.1
  generalize hW : b.2.2.2.1 = W at *
  generalize hT : b.2.2.2.2.1 = T at *
  generalize hy : k / W = y at *
  generalize hx : k % W = x at *
  by_cases e : f = 40 ∧ j = 96 * c + (p + y * 12 + x)
  · obtain ⟨rfl, rfl⟩ := e
    rw [up_eq]
    unfold chgI
    rw [hW, hT]
    have a1 : (96 * c + (p + y * 12 + x) - 96 * c) % 12 - p % 12 = x := by omega
    have a2 : (96 * c + (p + y * 12 + x) - 96 * c) / 12 - p / 12 = y := by omega
    rw [a1, a2, if_pos ⟨rfl, ⟨by omega, by omega⟩, ⟨⟨by omega, by omega⟩, by omega, by omega⟩, by omega⟩]
    congr 1
    omega
  · have e2 : up (chgI S c P R b p k) 40 (96 * c + (p + y * 12 + x)) (colC P R b p (p + y * 12 + x)) f j = chgI S c P R b p k f j := if_neg e
    rw [e2]
    unfold chgI
    rw [hW, hT]
    generalize hX : (j - 96 * c) % 12 - p % 12 = X
    generalize hY : (j - 96 * c) / 12 - p / 12 = Y
    by_cases e3 : f = 40 ∧ (96 * c ≤ j ∧ j < 96 * c + 96) ∧ ((0 ≤ X ∧ X < W) ∧ 0 ≤ Y ∧ Y < T) ∧ Y * W + X < k
    · rw [if_pos e3, if_pos ⟨e3.1, e3.2.1, e3.2.2.1, by omega⟩]
    · rw [if_neg e3, if_neg]
      rintro ⟨z1, z2, z3, z4⟩
      by_cases e4 : Y * W + X = k
      · have d := div_uniq (w := W) (x := X) (y := Y) z3.1.1 z3.1.2
        rw [e4, hy, hx] at d
        exact e ⟨z1, by omega⟩
      · exact e3 ⟨z1, z2, z3, by omega⟩
