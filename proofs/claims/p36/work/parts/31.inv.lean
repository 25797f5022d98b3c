/-! what always holds of the state, and the check's functions -/
abbrev isS (S : S9) (s : Int) : Prop := 0 ≤ s ∧ s < S 1 0
abbrev isC (S : S9) (c : Int) : Prop := 0 ≤ c ∧ c < S 2 0
abbrev isWn (S : S9) (s w : Int) : Prop := (0 ≤ s ∧ s < S 1 0) ∧ 0 ≤ w ∧ w < S 4 s ∧ S 10 (6 * s + w) = 1
abbrev isXY (x y : Int) : Prop := (0 ≤ x ∧ x ≤ 11) ∧ 0 ≤ y ∧ y ≤ 7
/-- numbers of things -/
def IN (S : S9) : Prop := 0 ≤ S 1 0 ∧ S 1 0 ≤ 4 ∧ 0 ≤ S 2 0 ∧ S 2 0 ≤ 6 ∧ ∀ s, 0 ≤ s → s < 4 → 0 ≤ S 4 s ∧ S 4 s ≤ 6 ∧ 0 ≤ S 16 s ∧ S 16 s ≤ S 4 s ∧ 0 ≤ S 17 s ∧ S 17 s ≤ 20
/-- a window's numbers -/
def IW1 (S : S9) (w : Int) : Prop := -5 ≤ S 5 w ∧ S 5 w ≤ 11 ∧ -5 ≤ S 6 w ∧ S 6 w ≤ 7 ∧ 1 ≤ S 7 w ∧ S 7 w ≤ 12 ∧ 1 ≤ S 8 w ∧ S 8 w ≤ 8 ∧ 0 ≤ S 9 w ∧ S 9 w < S 7 w * S 8 w
/-- a window that was opened -/
abbrev hasW (S : S9) (s w : Int) : Prop := 0 ≤ s ∧ s < 4 ∧ 6 * s ≤ w ∧ w < 6 * s + S 4 s
def IW (S : S9) : Prop := ∀ s w, hasW S s w → IW1 S w
/-- the order -/
def IO (S : S9) : Prop := ∀ s i, 0 ≤ s → s < 4 → 0 ≤ i → i < S 16 s → hasW S s (S 15 (6 * s + i)) ∧ S 10 (S 15 (6 * s + i)) = 1
def IO2 (S : S9) : Prop := (∀ s i j, 0 ≤ s → s < 4 → 0 ≤ i → i < j → j < S 16 s → S 15 (6 * s + i) ≠ S 15 (6 * s + j)) ∧ ∀ s w, hasW S s w → S 10 w = 1 → ∃ j, 0 ≤ j ∧ j < S 16 s ∧ S 15 (6 * s + j) = w
theorem cell_lt {W H x y : Int} (hx0 : 0 ≤ x) (hx : x ≤ W - 1) (hy0 : 0 ≤ y) (hy : y ≤ H - 1) : 0 ≤ y * W + x ∧ y * W + x < W * H := by
  have h1 : 0 ≤ y * W := Int.mul_nonneg hy0 (by omega)
  have h2 : y * W ≤ (H - 1) * W := Int.mul_le_mul_of_nonneg_right hy (by omega)
  have h3 : (H - 1) * W = W * H - W := by rw [Int.sub_mul, Int.one_mul, Int.mul_comm]
  omega
theorem area_le {W H : Int} (h1 : 1 ≤ W) (h2 : W ≤ 12) (h3 : 1 ≤ H) (h4 : H ≤ 8) : 1 ≤ W * H ∧ W * H ≤ 96 := by
  have a : W * H ≤ 12 * H := Int.mul_le_mul_of_nonneg_right h2 (by omega)
  have b : 1 * H ≤ W * H := Int.mul_le_mul_of_nonneg_right h1 (by omega)
  omega
def cellAt (S : S9) (w p : Int) : Int := if (0 ≤ p % 12 - S 5 w ∧ p % 12 - S 5 w ≤ S 7 w - 1) ∧ 0 ≤ p / 12 - S 6 w ∧ p / 12 - S 6 w ≤ S 8 w - 1 then (p / 12 - S 6 w) * S 7 w + (p % 12 - S 5 w) else -1
theorem cellAt_in {S : S9} {w p : Int} (hW : IW1 S w) : -1 ≤ cellAt S w p ∧ cellAt S w p < 96 ∧ (0 ≤ cellAt S w p → cellAt S w p < S 7 w * S 8 w) := by
  obtain ⟨h1, h2, h3, h4, h5, h6, h7, h8, h9, h10⟩ := hW
  have := area_le h5 h6 h7 h8
  unfold cellAt
  split
  · rename_i e
    have := cell_lt e.1.1 e.1.2 e.2.1 e.2.2
    omega
  · omega
def placeOf (S : S9) (w c : Int) : Int := if (0 ≤ S 5 w + c % S 7 w ∧ S 5 w + c % S 7 w ≤ 11) ∧ 0 ≤ S 6 w + c / S 7 w ∧ S 6 w + c / S 7 w ≤ 7 then (S 6 w + c / S 7 w) * 12 + (S 5 w + c % S 7 w) else -1
def topAtN (S : S9) (s p : Int) : Nat → Int
  | 0 => -1
  | n + 1 => if S 11 (S 15 (6 * s + n)) = 1 ∧ 0 ≤ cellAt S (S 15 (6 * s + n)) p then S 15 (6 * s + n) else topAtN S s p n
def topAt (S : S9) (s p : Int) : Int := topAtN S s p (S 16 s).toNat
def screenAt (S : S9) (s p : Int) : Int := if topAt S s p < 0 then 0 else S 14 (96 * topAt S s p + cellAt S (topAt S s p) p)
def topOfN (S : S9) (s : Int) : Nat → Int
  | 0 => -1
  | n + 1 => if S 11 (S 15 (6 * s + n)) = 1 then S 15 (6 * s + n) else topOfN S s n
def topOf (S : S9) (s : Int) : Int := topOfN S s (S 16 s).toNat
theorem topAtN_in {S : S9} {s p : Int} (hO : IO S) (h0 : 0 ≤ s) (h1 : s < 4) : ∀ n : Nat, (n : Int) ≤ S 16 s → topAtN S s p n = -1 ∨ (hasW S s (topAtN S s p n) ∧ S 10 (topAtN S s p n) = 1 ∧ S 11 (topAtN S s p n) = 1 ∧ 0 ≤ cellAt S (topAtN S s p n) p)
  | 0, _ => Or.inl rfl
  | n + 1, h => by
    unfold topAtN
    split
    · rename_i e
      have := hO s n h0 h1 (by omega) (by omega)
      exact Or.inr ⟨this.1, this.2, e⟩
    · exact topAtN_in hO h0 h1 n (by omega)
theorem topAt_in {S : S9} {s p : Int} (hN : IN S) (hO : IO S) (h0 : 0 ≤ s) (h1 : s < 4) : topAt S s p = -1 ∨ (hasW S s (topAt S s p) ∧ S 10 (topAt S s p) = 1 ∧ S 11 (topAt S s p) = 1 ∧ 0 ≤ cellAt S (topAt S s p) p) := by
  have := hN.2.2.2.2 s h0 h1
  exact topAtN_in hO h0 h1 _ (by omega)
theorem topOfN_in {S : S9} {s : Int} (hO : IO S) (h0 : 0 ≤ s) (h1 : s < 4) : ∀ n : Nat, (n : Int) ≤ S 16 s → topOfN S s n = -1 ∨ (hasW S s (topOfN S s n) ∧ S 10 (topOfN S s n) = 1 ∧ S 11 (topOfN S s n) = 1)
  | 0, _ => Or.inl rfl
  | n + 1, h => by
    unfold topOfN
    split
    · rename_i e
      have := hO s n h0 h1 (by omega) (by omega)
      exact Or.inr ⟨this.1, this.2, e⟩
    · exact topOfN_in hO h0 h1 n (by omega)
theorem topOf_in {S : S9} {s : Int} (hN : IN S) (hO : IO S) (h0 : 0 ≤ s) (h1 : s < 4) : topOf S s = -1 ∨ (hasW S s (topOf S s) ∧ S 10 (topOf S s) = 1 ∧ S 11 (topOf S s) = 1) := by
  have := hN.2.2.2.2 s h0 h1
  exact topOfN_in hO h0 h1 _ (by omega)
theorem zqe {x y : Int} (e : x = y) : (Sum.inl (some (zI x)) : zO) = .inl (some (zI y)) := by rw [e]
/-- how a method of the check ends -/
def QM (S : S9) (h : zH) (k : Int) (v0 v : zV) (S' : S9) : zO → zH → Prop := fun o h' => zf h' 1000 99 = k ∧ ((k = 0 ∧ o = .inl (some v) ∧ MM S' h h') ∨ (k ≠ 0 ∧ o = .inl (some v0) ∧ MM S h h'))
theorem QM_ok {S S' : S9} {h h' : zH} {k : Int} {v0 v w : zV} (ht : zf h' 1000 99 = 0) (hk : k = 0) (hv : w = v) (hM : MM S' h h') : QM S h k v0 v S' (.inl (some w)) h' := ⟨by rw [hk]; exact ht, Or.inl ⟨hk, by rw [hv], hM⟩⟩
theorem QM_no {S S' : S9} {h h' : zH} {k x : Int} {v0 v : zV} (ht : zf h' 1000 99 = x) (hk : k = x) (hx : x ≠ 0) (hM : MM S h h') : QM S h k v0 v S' (.inl (some v0)) h' := ⟨by rw [hk]; exact ht, Or.inr ⟨by rw [hk]; exact hx, rfl, hM⟩⟩
/-- taking out of the order what is at its place p -/
def tkO (S : S9) (s p : Int) : S9 := fun f j => if f = 15 ∧ 6 * s + p ≤ j ∧ j < 6 * s + S 16 s - 1 then S 15 (j + 1) else if f = 16 ∧ j = s then S 16 s - 1 else S f j
def ordI (S : S9) (s p a : Int) : S9 := fun f j => if f = 15 ∧ 6 * s + p ≤ j ∧ j < a - 1 then S 15 (j + 1) else S f j
def posO (S : S9) (s w p : Int) : Prop := 0 ≤ p ∧ p < S 16 s ∧ S 15 (6 * s + p) = w ∧ ∀ j, 0 ≤ j → j < S 16 s → j ≠ p → S 15 (6 * s + j) ≠ w
/-- a part of a row anew -/
def setR (S : S9) (f : Nat) (lo hi : Int) (g : Int → Int) : S9 := fun f' j => if f' = f ∧ lo ≤ j ∧ j < hi then g j else S f' j
def sg (f : Int → Int) : Nat → Int
  | 0 => 0
  | n + 1 => sg f n + f n
theorem sg_in {f : Int → Int} {a : Int} (ha : 0 ≤ a) (h : ∀ i, 0 ≤ i → 0 ≤ f i ∧ f i ≤ a) : ∀ n : Nat, 0 ≤ sg f n ∧ sg f n ≤ a * n
  | 0 => ⟨Int.le_refl _, by simp [sg]⟩
  | n + 1 => by
    have h1 := sg_in ha h n
    have h2 := h n (by omega)
    have h3 : a * ((n + 1 : Nat) : Int) = a * n + a := by
      rw [Int.natCast_add, Int.mul_add]
      simp
    unfold sg
    omega
theorem sg_eq {f g : Int → Int} : ∀ n : Nat, (∀ i, 0 ≤ i → i < n → f i = g i) → sg f n = sg g n
  | 0, _ => rfl
  | n + 1, h => by
    unfold sg
    rw [sg_eq n (fun i h0 h1 => h i h0 (by omega)), h n (by omega) (by omega)]
theorem thr {h h' : zH} {w : Int} (e : h' = sf h 1000 99 w) : zf h' 1000 99 = w := by rw [e]; show z2 (zf h) 1000 99 w 1000 99 = w; exact z2_eq
theorem MM_thr {S : S9} {h0 h h' : zH} {w : Int} (hM : MM S h0 h) (e : h' = sf h 1000 99 w) : MM S h0 h' := by rw [e]; exact MM_sfx (f := 0) hM (Or.inl rfl)
/-- a new window -/
def opW (S : S9) (s x y a b : Int) : S9 := up (up (up (up (up (up (up (up (up S 4 s (S 4 s + 1)) 5 (6 * s + S 4 s) x) 6 (6 * s + S 4 s) y) 7 (6 * s + S 4 s) a) 8 (6 * s + S 4 s) b) 10 (6 * s + S 4 s) 1) 11 (6 * s + S 4 s) 1) 15 (6 * s + S 16 s) (6 * s + S 4 s)) 16 s (S 16 s + 1)
