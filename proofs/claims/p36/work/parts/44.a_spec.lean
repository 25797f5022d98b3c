/-! the change that a client gets next -/
abbrev T6 : Type := Int × Int × Int × Int × Int × Int
def tr (b n : T6) : T6 := if b.2.1 = 0 ∨ b.2.2.1 * n.2.1 < n.2.2.1 * b.2.1 then n else b
def gn (P R : Int → Int) (p col : Int) : Int := b2 (col = R p) - b2 (P p = R p)
abbrev vld (x y w t : Int) : Prop := (0 ≤ x ∧ 0 ≤ y) ∧ x + w ≤ 12 ∧ y + t ≤ 8
def gC (P R : Int → Int) (p w t by9 : Int) : Int := sg (fun k => gn P R (p + k / w * 12 + k % w) (P (p + k / w * 12 + k % w + by9))) (w * t).toNat
def gF (P R : Int → Int) (p w t : Int) : Int := sg (fun k => gn P R (p + k / w * 12 + k % w) (R p)) (w * t).toNat
abbrev cBy (a : Int) : Int := (a / 5 - 2) * 12 + a % 5 - 2
abbrev cOk (p a w t : Int) : Prop := vld (p % 12) (p / 12) w t ∧ vld (p % 12 + a % 5 - 2) (p / 12 + a / 5 - 2) w t
def cpH (P R : Int → Int) (p a w : Int) (b : T6) : Nat → T6
  | 0 => b
  | n + 1 => if cOk p a w ((n : Int) + 1) then tr (cpH P R p a w b n) (99, 6, gC P R p w ((n : Int) + 1) (cBy a), w, (n : Int) + 1, cBy a) else cpH P R p a w b n
def cpW (P R : Int → Int) (p a : Int) (b : T6) : Nat → T6
  | 0 => b
  | n + 1 => cpH P R p a ((n : Int) + 2) (cpW P R p a b n) 4
def cpA (P R : Int → Int) (p : Int) (b : T6) : Nat → T6
  | 0 => b
  | n + 1 => if n = 12 then cpA P R p b n else cpW P R p n (cpA P R p b n) 5
def flH (P R : Int → Int) (p w : Int) (b : T6) : Nat → T6
  | 0 => b
  | n + 1 => if vld (p % 12) (p / 12) w ((n : Int) + 1) then tr (flH P R p w b n) (102, 5, gF P R p w ((n : Int) + 1), w, (n : Int) + 1, 0) else flH P R p w b n
def flW (P R : Int → Int) (p : Int) (b : T6) : Nat → T6
  | 0 => b
  | n + 1 => flH P R p ((n : Int) + 1) (flW P R p b n) 8
/-- the first place where the picture is behind, 96 if there is none -/
def fstR (P R : Int → Int) : Nat → Int
  | 0 => 96
  | d + 1 => if P (96 - ((d : Int) + 1)) = R (96 - ((d : Int) + 1)) then fstR P R d else 96 - ((d : Int) + 1)
def fst9 (P R : Int → Int) : Int := fstR P R 96
def runR (P R : Int → Int) (p : Int) : Nat → Int
  | 0 => 12 - p % 12
  | d + 1 => if P (p + (12 - p % 12 - ((d : Int) + 1))) = R (p + (12 - p % 12 - ((d : Int) + 1))) then 12 - p % 12 - ((d : Int) + 1) else runR P R p d
def run9 (P R : Int → Int) (p : Int) : Int := runR P R p (12 - p % 12).toNat
def bst (P R : Int → Int) : T6 := tr (flW P R (fst9 P R) (cpA P R (fst9 P R) (0, 0, 0, 0, 0, 0) 25) 12) (114, 2 + run9 P R (fst9 P R), run9 P R (fst9 P R), run9 P R (fst9 P R), 1, 0)
theorem fstR_s (P R : Int → Int) (d : Nat) : fstR P R (d + 1) = if P (96 - ((d : Int) + 1)) = R (96 - ((d : Int) + 1)) then fstR P R d else 96 - ((d : Int) + 1) := rfl
theorem runR_s (P R : Int → Int) (p : Int) (d : Nat) : runR P R p (d + 1) = if P (p + (12 - p % 12 - ((d : Int) + 1))) = R (p + (12 - p % 12 - ((d : Int) + 1))) then 12 - p % 12 - ((d : Int) + 1) else runR P R p d := rfl
theorem fstR_in (P R : Int → Int) : ∀ d : Nat, d ≤ 96 → 96 - (d : Int) ≤ fstR P R d ∧ fstR P R d ≤ 96
  | 0, _ => by unfold fstR; omega
  | d + 1, h => by
    have := fstR_in P R d (by omega)
    unfold fstR
    split <;> omega
theorem fst9_in (P R : Int → Int) : 0 ≤ fst9 P R ∧ fst9 P R ≤ 96 := by
  have := fstR_in P R 96 (Nat.le_refl _)
  unfold fst9
  omega
theorem runR_in (P R : Int → Int) (p : Int) : ∀ d : Nat, (d : Int) ≤ 12 - p % 12 → 12 - p % 12 - (d : Int) ≤ runR P R p d ∧ runR P R p d ≤ 12 - p % 12
  | 0, _ => by unfold runR; omega
  | d + 1, h => by
    have := runR_in P R p d (by omega)
    unfold runR
    split <;> omega
theorem run9_in (P R : Int → Int) (p : Int) : 0 ≤ run9 P R p ∧ run9 P R p ≤ 12 - p % 12 := by
  have := runR_in P R p (12 - p % 12).toNat (by omega)
  unfold run9
  omega
theorem gn_in (P R : Int → Int) (p col : Int) : -1 ≤ gn P R p col ∧ gn P R p col ≤ 1 := by
  unfold gn
  have h1 := b2_le (p := col = R p)
  have h2 := b2_le (p := P p = R p)
  omega
theorem sg_pm {f : Int → Int} (h : ∀ i, 0 ≤ i → -1 ≤ f i ∧ f i ≤ 1) : ∀ n : Nat, -(n : Int) ≤ sg f n ∧ sg f n ≤ n
  | 0 => by unfold sg; omega
  | n + 1 => by
    have h1 := sg_pm h n
    have h2 := h n (by omega)
    unfold sg
    omega
theorem mul_bd {g c : Int} (h1 : -100 ≤ g) (h2 : g ≤ 100) (h3 : 0 ≤ c) (h4 : c ≤ 20) : -2000 ≤ g * c ∧ g * c ≤ 2000 := by
  have a : g * c ≤ 100 * c := Int.mul_le_mul_of_nonneg_right h2 h3
  have b : -100 * c ≤ g * c := Int.mul_le_mul_of_nonneg_right h1 h3
  omega
/-- costs and gains in range -/
def bnd (b : T6) : Prop := b.2.1 = 0 ∨ (3 ≤ b.2.1 ∧ b.2.1 ≤ 20 ∧ -100 ≤ b.2.2.1 ∧ b.2.2.1 ≤ 100)
theorem bnd_tr {b n : T6} (hb : bnd b) (hn : bnd n) : bnd (tr b n) := by
  unfold tr
  split
  · exact hn
  · exact hb
/-- one best, or none in both -/
def eqB (b c : T6) : Prop := b = c ∨ (b.2.1 = 0 ∧ c.2.1 = 0)
theorem tr_eq {b c n : T6} (h : eqB b c) : tr b n = tr c n := by
  rcases h with h | ⟨h1, h2⟩
  · rw [h]
  · unfold tr
    rw [if_pos (Or.inl h1), if_pos (Or.inl h2)]
theorem cpH_eq {P R : Int → Int} {p a w : Int} {b c : T6} (h : eqB b c) : ∀ n : Nat, eqB (cpH P R p a w b n) (cpH P R p a w c n)
  | 0 => h
  | n + 1 => by
    unfold cpH
    split
    · exact Or.inl (tr_eq (cpH_eq h n))
    · exact cpH_eq h n
theorem cpW_eq {P R : Int → Int} {p a : Int} {b c : T6} (h : eqB b c) : ∀ n : Nat, eqB (cpW P R p a b n) (cpW P R p a c n)
  | 0 => h
  | n + 1 => by
    unfold cpW
    exact cpH_eq (cpW_eq h n) 4
theorem cpA_eq {P R : Int → Int} {p : Int} {b c : T6} (h : eqB b c) : ∀ n : Nat, eqB (cpA P R p b n) (cpA P R p c n)
  | 0 => h
  | n + 1 => by
    unfold cpA
    split
    · exact cpA_eq h n
    · exact cpW_eq (cpA_eq h n) 5
theorem flH_eq {P R : Int → Int} {p w : Int} {b c : T6} (h : eqB b c) : ∀ n : Nat, eqB (flH P R p w b n) (flH P R p w c n)
  | 0 => h
  | n + 1 => by
    unfold flH
    split
    · exact Or.inl (tr_eq (flH_eq h n))
    · exact flH_eq h n
theorem flW_eq {P R : Int → Int} {p : Int} {b c : T6} (h : eqB b c) : ∀ n : Nat, eqB (flW P R p b n) (flW P R p c n)
  | 0 => h
  | n + 1 => by
    unfold flW
    exact flH_eq (flW_eq h n) 8
/-- the check while it seeks: its rows S, the screen R in the row now, the best b, the place pl -/
def FB (S : S9) (R : Int → Int) (h0 h : zH) (b : T6) (pl : Int) : Prop := MM S h0 h ∧ (∀ p, 0 ≤ p → p < 96 → za h 141 p = R p) ∧ zf h 1043 99 = b.1 ∧ zf h 1044 99 = b.2.1 ∧ zf h 1045 99 = b.2.2.1 ∧ zf h 1047 99 = b.2.2.2.1 ∧ zf h 1048 99 = b.2.2.2.2.1 ∧ zf h 1049 99 = b.2.2.2.2.2 ∧ zf h 1046 99 = pl ∧ bnd b ∧ zf h 1000 99 = zf h0 1000 99
theorem wt_bd {w t : Int} (h1 : 1 ≤ w) (h2 : w ≤ 6) (h3 : 1 ≤ t) (h4 : t ≤ 4) : 1 ≤ w * t ∧ w * t ≤ 24 := by
  have a : w * t ≤ 6 * t := Int.mul_le_mul_of_nonneg_right h2 (by omega)
  have b : 1 * t ≤ w * t := Int.mul_le_mul_of_nonneg_right h1 (by omega)
  omega
