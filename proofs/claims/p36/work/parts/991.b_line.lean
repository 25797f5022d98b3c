/-! p36: what a change brings; the line's measure -/
/-- a found change's gain, cell by cell, and its cost -/
def okG (P R : Int → Int) (p : Int) (b : T6) : Prop := b.2.1 = 0 ∨ (b.2.2.1 = sg (fun k => gn P R (p + k / b.2.2.2.1 * 12 + k % b.2.2.2.1) (colC P R b p (p + k / b.2.2.2.1 * 12 + k % b.2.2.2.1))) (b.2.2.2.1 * b.2.2.2.2.1).toNat ∧ ((b.1 = 99 ∧ b.2.1 = 6) ∨ (b.1 = 102 ∧ b.2.1 = 5)))
theorem okG_tr {P R : Int → Int} {p : Int} {b n : T6} (hb : okG P R p b) (hn : okG P R p n) : okG P R p (tr b n) := by
  unfold tr
  split
  · exact hn
  · exact hb
theorem okG_c {P R : Int → Int} {p w t by9 : Int} : okG P R p (99, 6, gC P R p w t by9, w, t, by9) := Or.inr ⟨rfl, Or.inl ⟨rfl, rfl⟩⟩
theorem okG_f {P R : Int → Int} {p w t : Int} : okG P R p (102, 5, gF P R p w t, w, t, 0) := Or.inr ⟨rfl, Or.inr ⟨rfl, rfl⟩⟩
theorem cpH_G {P R : Int → Int} {p a w : Int} {b : T6} (h : okG P R p b) : ∀ n : Nat, okG P R p (cpH P R p a w b n)
  | 0 => h
  | n + 1 => by
    unfold cpH
    split
    · exact okG_tr (cpH_G h n) okG_c
    · exact cpH_G h n
theorem cpW_G {P R : Int → Int} {p a : Int} {b : T6} (h : okG P R p b) : ∀ n : Nat, okG P R p (cpW P R p a b n)
  | 0 => h
  | n + 1 => by
    unfold cpW
    exact cpH_G (cpW_G h n) 4
theorem cpA_G {P R : Int → Int} {p : Int} {b : T6} (h : okG P R p b) : ∀ n : Nat, okG P R p (cpA P R p b n)
  | 0 => h
  | n + 1 => by
    unfold cpA
    split
    · exact cpA_G h n
    · exact cpW_G (cpA_G h n) 5
theorem flH_G {P R : Int → Int} {p w : Int} {b : T6} (h : okG P R p b) : ∀ n : Nat, okG P R p (flH P R p w b n)
  | 0 => h
  | n + 1 => by
    unfold flH
    split
    · exact okG_tr (flH_G h n) okG_f
    · exact flH_G h n
theorem flW_G {P R : Int → Int} {p : Int} {b : T6} (h : okG P R p b) : ∀ n : Nat, okG P R p (flW P R p b n)
  | 0 => h
  | n + 1 => by
    unfold flW
    exact flH_G (flW_G h n) 8
/-- cells beside each other are behind all of them -/
theorem runR_beh {P R : Int → Int} {p : Int} : ∀ d : Nat, (d : Int) ≤ 12 - p % 12 → ∀ i : Int, 12 - p % 12 - (d : Int) ≤ i → i < runR P R p d → P (p + i) ≠ R (p + i)
  | 0, _, i, h1, h2 => by unfold runR at h2; omega
  | d + 1, hd, i, h1, h2 => by
    rw [runR_s] at h2
    split at h2
    · omega
    · rename_i z
      by_cases e : i = 12 - p % 12 - ((d : Int) + 1)
      · rw [e]; exact z
      · exact runR_beh d (by omega) i (by omega) h2
theorem run9_beh {P R : Int → Int} {p i : Int} (i0 : 0 ≤ i) (i1 : i < run9 P R p) : P (p + i) ≠ R (p + i) := by
  have h9 : 0 < 12 - p % 12 := by omega
  exact runR_beh (12 - p % 12).toNat (by omega) i (by omega) i1
theorem sg_const {f : Int → Int} {a : Int} : ∀ n : Nat, (∀ i, 0 ≤ i → i < n → f i = a) → sg f n = a * n
  | 0, _ => by unfold sg; simp
  | n + 1, h => by
    unfold sg
    rw [sg_const n (fun i h0 h1 => h i h0 (by omega)), h n (by omega) (by omega), show ((n + 1 : Nat) : Int) = (n : Int) + 1 by omega, Int.mul_add]
    simp
/-- what is sent next: its gain, its cost -/
theorem bst_G {P R : Int → Int} (h : fst9 P R < 96) : (bst P R).2.2.1 = sg (fun k => gn P R (fst9 P R + k / (bst P R).2.2.2.1 * 12 + k % (bst P R).2.2.2.1) (colC P R (bst P R) (fst9 P R) (fst9 P R + k / (bst P R).2.2.2.1 * 12 + k % (bst P R).2.2.2.1))) ((bst P R).2.2.2.1 * (bst P R).2.2.2.2.1).toNat ∧ (((bst P R).1 = 99 ∧ (bst P R).2.1 = 6) ∨ ((bst P R).1 = 102 ∧ (bst P R).2.1 = 5) ∨ ((bst P R).1 = 114 ∧ (bst P R).2.1 = 2 + (bst P R).2.2.1 ∧ (bst P R).2.2.1 ≤ 12)) ∧ (bst P R).2.1 ≤ 3 * (bst P R).2.2.1 := by
  have h1 := fst9_in P R
  have h2 := runR_pos (fstR_ne (P := P) (R := R) 96 (Nat.le_refl _) h)
  have h2 : 1 ≤ run9 P R (fst9 P R) := h2
  have h3 := run9_in P R (fst9 P R)
  have hz : okG P R (fst9 P R) (0, 0, 0, 0, 0, 0) := Or.inl rfl
  have hG := flW_G (cpA_G hz 25) 12
  have hb : ∀ i, 0 ≤ i → i < run9 P R (fst9 P R) → P (fst9 P R + i) ≠ R (fst9 P R + i) := fun i i0 i1 => run9_beh i0 i1
  unfold bst
  generalize flW P R (fst9 P R) (cpA P R (fst9 P R) (0, 0, 0, 0, 0, 0) 25) 12 = b at hG ⊢
  generalize run9 P R (fst9 P R) = n at h2 h3 hb ⊢
  generalize fst9 P R = p at h1 h3 hG hb ⊢
  unfold tr
  split
  · refine ⟨?_, Or.inr (Or.inr ⟨rfl, rfl, by show n ≤ 12; omega⟩), by show 2 + n ≤ 3 * n; omega⟩
    show n = sg _ (n * 1).toNat
    rw [Int.mul_one]
    have e := sg_const (f := fun k => gn P R (p + k / n * 12 + k % n) (colC P R (114, 2 + n, n, n, 1, 0) p (p + k / n * 12 + k % n))) (a := 1) n.toNat (fun i i0 i1 => ?_)
    · show n = sg (fun k => gn P R (p + k / n * 12 + k % n) (colC P R (114, 2 + n, n, n, 1, 0) p (p + k / n * 12 + k % n))) n.toNat
      rw [e]
      omega
    · have e1 : i / n = 0 := Int.ediv_eq_zero_of_lt (by omega) (by omega)
      have e2 : i % n = i := Int.emod_eq_of_lt (by omega) (by omega)
      show gn P R (p + i / n * 12 + i % n) (colC P R (114, 2 + n, n, n, 1, 0) p (p + i / n * 12 + i % n)) = 1
      rw [e1, e2, show p + 0 * 12 + i = p + i by omega]
      unfold gn colC
      have z := hb i (by omega) (by omega)
      show b2 (R (p + i) = R (p + i)) - b2 (P (p + i) = R (p + i)) = 1
      rw [b2_t rfl, b2_f z]
      rfl
  · rename_i z
    rcases hG with hG | ⟨hG, hc⟩
    · exact absurd (Or.inl hG) z
    · refine ⟨hG, ?_, ?_⟩
      · rcases hc with hc | hc
        · exact Or.inl hc
        · exact Or.inr (Or.inl hc)
      · have z2 : ¬ b.2.2.1 * (2 + n) < n * b.2.1 := fun y => z (Or.inr y)
        have hk : b.2.1 = 6 ∨ b.2.1 = 5 := by omega
        have hn : n = 1 ∨ n = 2 ∨ n = 3 ∨ n = 4 ∨ n = 5 ∨ n = 6 ∨ n = 7 ∨ n = 8 ∨ n = 9 ∨ n = 10 ∨ n = 11 ∨ n = 12 := by omega
        rcases hk with hk | hk <;> rw [hk] at z2 ⊢ <;> rcases hn with rfl | rfl | rfl | rfl | rfl | rfl | rfl | rfl | rfl | rfl | rfl | rfl <;> omega
/-- the next change as the client's -/
theorem bstC_G {S : S9} {c : Int} (h : hasN S c) : (((bstC S c).1 = 99 ∧ (bstC S c).2.1 = 6) ∨ ((bstC S c).1 = 102 ∧ (bstC S c).2.1 = 5) ∨ ((bstC S c).1 = 114 ∧ (bstC S c).2.1 = 2 + (bstC S c).2.2.1 ∧ (bstC S c).2.2.1 ≤ 12)) ∧ (bstC S c).2.1 ≤ 3 * (bstC S c).2.2.1 := (bst_G (P := Pc S c) (R := Rc S c) h).2
/-- a sum with one place changed -/
theorem sg_at {f g : Int → Int} {q : Int} (h : ∀ i, i ≠ q → f i = g i) : ∀ n : Nat, 0 ≤ q → sg f n = sg g n + (if q < n then f q - g q else 0)
  | 0, h0 => by
    rw [if_neg (by omega)]
    rfl
  | n + 1, h0 => by
    unfold sg
    rw [sg_at h n h0]
    by_cases e : q = n
    · subst e
      rw [if_neg (by omega), if_pos (by omega)]
      omega
    · rw [h n (fun z => e z.symm)]
      by_cases e2 : q < n
      · rw [if_pos e2, if_pos (by omega)]
        omega
      · rw [if_neg e2, if_neg (by omega)]
        omega
theorem b2_ne {a b : Int} : b2 (a ≠ b) = 1 - b2 (a = b) := by
  by_cases h : a = b
  · rw [b2_t h, b2_f (fun z => z h)]
    rfl
  · rw [b2_f h, b2_t h]
    rfl
/-- a rectangle's cell k: it isn't changed yet when the first k are -/
theorem chgI_at {S : S9} {c : Int} {P R : Int → Int} {b : T6} {p k : Int} (hp : 0 ≤ p ∧ p < 96) (hk : 0 ≤ k) (hw : 1 ≤ b.2.2.2.1) (hv : vld (p % 12) (p / 12) b.2.2.2.1 b.2.2.2.2.1) (hkt : k / b.2.2.2.1 < b.2.2.2.2.1) : chgI S c P R b p k 40 (96 * c + (p + k / b.2.2.2.1 * 12 + k % b.2.2.2.1)) = S 40 (96 * c + (p + k / b.2.2.2.1 * 12 + k % b.2.2.2.1)) ∧ 0 ≤ p + k / b.2.2.2.1 * 12 + k % b.2.2.2.1 ∧ p + k / b.2.2.2.1 * 12 + k % b.2.2.2.1 < 96 := by
  have g1 : 0 ≤ k % b.2.2.2.1 := Int.emod_nonneg _ (by omega)
  have g2 : k % b.2.2.2.1 < b.2.2.2.1 := Int.emod_lt_of_pos _ (by omega)
  have g3 : 0 ≤ k / b.2.2.2.1 := Int.ediv_nonneg hk (by omega)
  have g4 : k / b.2.2.2.1 * b.2.2.2.1 + k % b.2.2.2.1 = k := by rw [Int.mul_comm]; exact Int.mul_ediv_add_emod k b.2.2.2.1
  generalize hW : b.2.2.2.1 = W at *
  generalize hT : b.2.2.2.2.1 = T at *
  generalize hy : k / W = y at *
  generalize hx : k % W = x at *
  refine ⟨?_, by omega, by omega⟩
  unfold chgI
  rw [hW, hT]
  have a1 : (96 * c + (p + y * 12 + x) - 96 * c) % 12 - p % 12 = x := by omega
  have a2 : (96 * c + (p + y * 12 + x) - 96 * c) / 12 - p / 12 = y := by omega
  rw [a1, a2, if_neg (by omega)]
theorem chg_cnt {S : S9} {c : Int} {P R Rr : Int → Int} {b : T6} {p : Int} (hp : 0 ≤ p ∧ p < 96) (hw : 1 ≤ b.2.2.2.1) (ht : 1 ≤ b.2.2.2.2.1) (hv : vld (p % 12) (p / 12) b.2.2.2.1 b.2.2.2.2.1) (hP : ∀ q, P q = S 40 (96 * c + q)) (hR : ∀ q, R q = Rr q) : ∀ k : Nat, (k : Int) ≤ b.2.2.2.1 * b.2.2.2.2.1 → sg (fun q => b2 (chgI S c P R b p k 40 (96 * c + q) ≠ Rr q)) 96 = sg (fun q => b2 (S 40 (96 * c + q) ≠ Rr q)) 96 - sg (fun k => gn P R (p + k / b.2.2.2.1 * 12 + k % b.2.2.2.1) (colC P R b p (p + k / b.2.2.2.1 * 12 + k % b.2.2.2.1))) k
  | 0, _ => by
    have e : (fun q => b2 (chgI S c P R b p ((0 : Nat) : Int) 40 (96 * c + q) ≠ Rr q)) = fun q => b2 (S 40 (96 * c + q) ≠ Rr q) := funext fun q => by
      rw [show ((0 : Nat) : Int) = 0 from rfl, chgI_0 hw]
    rw [e]
    show _ = _ - 0
    omega
  | k + 1, hk => by
    have hkt : (k : Int) / b.2.2.2.1 < b.2.2.2.2.1 := Int.ediv_lt_of_lt_mul (by omega) (by rw [Int.mul_comm]; omega)
    have ih := chg_cnt (Rr := Rr) hp hw ht hv hP hR k (by omega)
    obtain ⟨a1, a2, a3⟩ := chgI_at (S := S) (c := c) (P := P) (R := R) hp (show (0 : Int) ≤ k by omega) hw hv hkt
    have hs : sg (fun k => gn P R (p + k / b.2.2.2.1 * 12 + k % b.2.2.2.1) (colC P R b p (p + k / b.2.2.2.1 * 12 + k % b.2.2.2.1))) (k + 1) = sg (fun k => gn P R (p + k / b.2.2.2.1 * 12 + k % b.2.2.2.1) (colC P R b p (p + k / b.2.2.2.1 * 12 + k % b.2.2.2.1))) k + gn P R (p + k / b.2.2.2.1 * 12 + k % b.2.2.2.1) (colC P R b p (p + k / b.2.2.2.1 * 12 + k % b.2.2.2.1)) := rfl
    have hc := fun q => chgI_s (S := S) (c := c) (P := P) (R := R) (j := 96 * c + q) (f := 40) hp (show (0 : Int) ≤ k by omega) hw hv hkt
    rw [hs]
    generalize hq : p + (k : Int) / b.2.2.2.1 * 12 + (k : Int) % b.2.2.2.1 = q9 at *
    have e1 := sg_at (f := fun q => b2 (chgI S c P R b p ((k : Int) + 1) 40 (96 * c + q) ≠ Rr q)) (g := fun q => b2 (chgI S c P R b p k 40 (96 * c + q) ≠ Rr q)) (q := q9) (fun i hi => by
      show b2 (chgI S c P R b p ((k : Int) + 1) 40 (96 * c + i) ≠ Rr i) = b2 (chgI S c P R b p k 40 (96 * c + i) ≠ Rr i)
      rw [hc i, up_i (by omega)]) 96 a2
    rw [if_pos (by omega)] at e1
    have e2 : chgI S c P R b p ((k : Int) + 1) 40 (96 * c + q9) = colC P R b p q9 := by rw [hc q9, up_eq]
    have e3 : ((k + 1 : Nat) : Int) = (k : Int) + 1 := by omega
    rw [e3, e1, ih, e2, a1]
    unfold gn
    rw [b2_ne, b2_ne, hR q9, hP q9]
    omega
/-- the screen that a client sees is not touched by what is sent -/
theorem send_scr {S : S9} {c d q : Int} : screenAt (sendS S c) (sendS S c 35 d) q = screenAt S (S 35 d) q := by
  rw [sendS_f (by decide)]
  exact screenAt_ag (fun f h5 h6 j => sendS_f (by omega)) _ _
theorem send_cnt {S : S9} {c : Int} (hn : hasN S c) : cntB (sendS S c) c = cntB S c - (bstC S c).2.2.1 := by
  have hb := bstC_ok hn
  have hG := bst_G (P := Pc S c) (R := Rc S c) hn
  have hf := fst9_in (Pc S c) (Rc S c)
  have hn2 : fst9 (Pc S c) (Rc S c) < 96 := hn
  rcases hb.1 with z | ⟨-, -, ⟨w1, w2, t1, t2⟩, hv, -⟩
  · omega
  · have e := chg_cnt (S := payS S c) (c := c) (P := Pc S c) (R := Rc S c) (Rr := Rc S c) (b := bstC S c) (p := fstC S c) ⟨hf.1, hn2⟩ w1 t1 hv (fun q => by
      show S 40 (96 * c + q) = payS S c 40 (96 * c + q)
      unfold payS
      rw [up_f (by decide)]) (fun q => rfl) ((bstC S c).2.2.2.1 * (bstC S c).2.2.2.2.1).toNat (by have := Int.mul_nonneg (show 0 ≤ (bstC S c).2.2.2.1 by omega) (show 0 ≤ (bstC S c).2.2.2.2.1 by omega); omega)
    have e2 : ((((bstC S c).2.2.2.1 * (bstC S c).2.2.2.2.1).toNat : Nat) : Int) = (bstC S c).2.2.2.1 * (bstC S c).2.2.2.2.1 := by have := Int.mul_nonneg (show 0 ≤ (bstC S c).2.2.2.1 by omega) (show 0 ≤ (bstC S c).2.2.2.2.1 by omega); omega
    rw [e2] at e
    have e3 : cntB (sendS S c) c = sg (fun q => b2 (chgI (payS S c) c (Pc S c) (Rc S c) (bstC S c) (fstC S c) ((bstC S c).2.2.2.1 * (bstC S c).2.2.2.2.1) 40 (96 * c + q) ≠ Rc S c q)) 96 := by
      unfold cntB
      refine sg_eq _ (fun i _ _ => ?_)
      show b2 (sendS S c 40 (96 * c + i) ≠ screenAt (sendS S c) (sendS S c 35 c) i) = _
      rw [send_scr]
      rfl
    have e4 : sg (fun q => b2 (payS S c 40 (96 * c + q) ≠ Rc S c q)) 96 = cntB S c := by
      unfold cntB
      refine sg_eq _ (fun i _ _ => ?_)
      show b2 (payS S c 40 (96 * c + i) ≠ Rc S c i) = b2 (S 40 (96 * c + i) ≠ screenAt S (S 35 c) i)
      unfold payS
      rw [up_f (by decide)]
    rw [e3, e, e4]
    have e5 : (bstC S c).2.2.1 = sg (fun k => gn (Pc S c) (Rc S c) (fstC S c + k / (bstC S c).2.2.2.1 * 12 + k % (bstC S c).2.2.2.1) (colC (Pc S c) (Rc S c) (bstC S c) (fstC S c) (fstC S c + k / (bstC S c).2.2.2.1 * 12 + k % (bstC S c).2.2.2.1))) ((bstC S c).2.2.2.1 * (bstC S c).2.2.2.2.1).toNat := hG.1
    omega
theorem send_oth {S : S9} {c d : Int} (h : d ≠ c) : cntB (sendS S c) d = cntB S d := by
  unfold cntB
  refine sg_eq _ (fun i i0 i1 => ?_)
  show b2 (sendS S c 40 (96 * d + i) ≠ screenAt (sendS S c) (sendS S c 35 d) i) = _
  rw [send_scr, sendS_c ⟨fun z => absurd z (by decide), fun _ => by omega⟩]
/-- all cells that are behind -/
def allB (S : S9) : Int := sg (fun c => cntB S c) (S 2 0).toNat
theorem cntB_in {S : S9} {c : Int} : 0 ≤ cntB S c ∧ cntB S c ≤ 96 := sg_in1 (f := fun p => b2 (S 40 (96 * c + p) ≠ screenAt S (S 35 c) p)) (fun _ _ => b2_le) 96 (by decide)
theorem allB_in {S : S9} (h0 : 0 ≤ S 2 0) (h : S 2 0 ≤ 6) : 0 ≤ allB S ∧ allB S ≤ 576 := by
  have := sg_in (f := fun c => cntB S c) (a := 96) (by decide) (fun i _ => cntB_in) (S 2 0).toNat
  unfold allB
  omega
theorem send_all {S : S9} {c : Int} (hc : isC S c) (hn : hasN S c) : allB (sendS S c) = allB S - (bstC S c).2.2.1 := by
  unfold allB
  rw [sendS_f (by decide)]
  have e := sg_at (f := fun d => cntB (sendS S c) d) (g := fun d => cntB S d) (q := c) (fun i hi => send_oth hi) (S 2 0).toNat hc.1
  rw [if_pos (by have := hc.2; have := hc.1; omega)] at e
  rw [e]
  have := send_cnt hn
  show sg (fun d => cntB S d) (S 2 0).toNat + (cntB (sendS S c) c - cntB S c) = _
  omega
/-- behind, told both ways -/
theorem has_cnt {S : S9} {c : Int} : hasN S c ↔ cntB S c ≠ 0 := by
  constructor
  · intro h z
    have h1 := fstR_ne (P := Pc S c) (R := Rc S c) 96 (Nat.le_refl _) h
    have h2 := fst9_in (Pc S c) (Rc S c)
    have h3 : fst9 (Pc S c) (Rc S c) < 96 := h
    have h4 : Pc S c (fst9 (Pc S c) (Rc S c)) ≠ Rc S c (fst9 (Pc S c) (Rc S c)) := h1
    generalize fst9 (Pc S c) (Rc S c) = q at h2 h3 h4
    have e := sg_at (f := fun p => b2 (S 40 (96 * c + p) ≠ screenAt S (S 35 c) p)) (g := fun p => if p = q then 0 else b2 (S 40 (96 * c + p) ≠ screenAt S (S 35 c) p)) (q := q) (fun i hi => by
      show _ = if i = q then 0 else _
      rw [if_neg hi]) 96 h2.1
    rw [if_pos (by omega)] at e
    have h5 : b2 (S 40 (96 * c + q) ≠ screenAt S (S 35 c) q) = 1 := b2_t h4
    have h6 := sg_in (f := fun p => if p = q then 0 else b2 (S 40 (96 * c + p) ≠ screenAt S (S 35 c) p)) (a := 1) (by decide) (fun i _ => by
      show 0 ≤ (if i = q then (0 : Int) else b2 (S 40 (96 * c + i) ≠ screenAt S (S 35 c) i)) ∧ _ ≤ (1 : Int)
      split
      · omega
      · exact b2_le) 96
    have h7 : cntB S c = sg (fun p => b2 (S 40 (96 * c + p) ≠ screenAt S (S 35 c) p)) 96 := rfl
    rw [h7, e] at z
    simp only [if_true] at z
    omega
  · intro h
    refine Decidable.byContradiction fun z => h ?_
    have h9 : ∀ d : Nat, d ≤ 96 → fstR (Pc S c) (Rc S c) d = 96 → ∀ i : Int, 96 - (d : Int) ≤ i → i < 96 → Pc S c i = Rc S c i := by
      intro d
      induction d with
      | zero => intro _ _ i h1 h2; omega
      | succ d ih =>
        intro hd h0 i h1 h2
        rw [fstR_s] at h0
        split at h0
        · rename_i y
          by_cases e : i = 96 - ((d : Int) + 1)
          · rw [e]; exact y
          · exact ih (by omega) h0 i (by omega) h2
        · omega
    have h10 := fst9_in (Pc S c) (Rc S c)
    have h11 : fst9 (Pc S c) (Rc S c) = 96 := by
      have : ¬ fst9 (Pc S c) (Rc S c) < 96 := z
      omega
    exact sg_z _ (fun i i0 i1 => b2_f (fun y => y (h9 96 (Nat.le_refl _) h11 i (by omega) (by omega))))
/-- the line: what is carried is a third of it at least right -/
theorem line_all : ∀ (u : Nat) {S : S9} (left : Int), 0 ≤ S 2 0 → left - (lineS S left u).2 ≤ 3 * (allB S - allB (lineS S left u).1) ∧ (lineS S left u).2 ≤ left
  | 0, S, left, _ => by
    show left - left ≤ 3 * (allB S - allB S) ∧ left ≤ left
    omega
  | u + 1, S, left, h2 => by
    rw [lineS_s]
    split
    · show left - left ≤ 3 * (allB S - allB S) ∧ left ≤ left
      omega
    · rename_i e
      rcases chN_in S left (S 2 0).toNat with z | z
      · omega
      · have hk := bstC_ok z.2.2.1
        have hg := (bstC_G z.2.2.1).2
        have ha := send_all (S := S) ⟨z.1, by omega⟩ z.2.2.1
        have ih := line_all u (S := sendS S (chN S left (S 2 0).toNat)) (left - (bstC S (chN S left (S 2 0).toNat)).2.1) (by rw [sendS_f (by decide)]; exact h2)
        omega
/-- .. and then no client's next change has room -/
theorem line_end : ∀ (u : Nat) {S : S9} (left : Int), 0 ≤ S 2 0 → left < 3 * (u + 1) → chN (lineS S left u).1 (lineS S left u).2 ((lineS S left u).1 2 0).toNat < 0
  | 0, S, left, h2, hl => by
    show chN S left (S 2 0).toNat < 0
    rcases chN_in S left (S 2 0).toNat with z | z
    · omega
    · have hk := bstC_ok z.2.2.1
      omega
  | u + 1, S, left, h2, hl => by
    rw [lineS_s]
    split
    · assumption
    · rename_i e
      rcases chN_in S left (S 2 0).toNat with z | z
      · omega
      · have hk := bstC_ok z.2.2.1
        exact line_end u _ (by rw [sendS_f (by decide)]; exact h2) (by omega)
theorem chN_neg {S : S9} {left : Int} : ∀ n : Nat, chN S left n < 0 → ∀ c : Int, 0 ≤ c → c < n → hasN S c → left < (bstC S c).2.1
  | 0, _, c, h0, h1, _ => by omega
  | n + 1, h, c, h0, h1, hn => by
    rw [chN_s] at h
    split at h
    · omega
    · rename_i z
      by_cases e : c = n
      · rw [e] at hn ⊢
        rcases Int.lt_or_le left (bstC S n).2.1 with y | y
        · exact y
        · exact absurd ⟨Or.inl h, hn, y⟩ z
      · exact chN_neg n h c h0 (by omega) hn
/-- what is behind is somebody's -/
theorem all_has {S : S9} (h : 0 < allB S) : ∃ c, isC S c ∧ hasN S c := by
  refine Classical.byContradiction fun z => ?_
  have e : allB S = 0 := sg_z _ (fun i i0 i1 => Decidable.byContradiction fun y => z ⟨i, ⟨by omega, by omega⟩, has_cnt.mpr y⟩)
  omega
theorem all_zero {S : S9} (h : allB S = 0) : ∀ c, isC S c → cntB S c = 0 := by
  intro c hc
  have e := sg_at (f := fun d => cntB S d) (g := fun d => if d = c then 0 else cntB S d) (q := c) (fun i hi => by
    show _ = if i = c then 0 else _
    rw [if_neg hi]) (S 2 0).toNat hc.1
  rw [if_pos (by have := hc.2; have := hc.1; omega)] at e
  have h6 := sg_in (f := fun d => if d = c then 0 else cntB S d) (a := 96) (by decide) (fun i _ => by
    show 0 ≤ (if i = c then (0 : Int) else cntB S i) ∧ _ ≤ (96 : Int)
    split
    · omega
    · exact cntB_in) (S 2 0).toNat
  have h7 : allB S = sg (fun d => cntB S d) (S 2 0).toNat := rfl
  have h8 := cntB_in (S := S) (c := c)
  rw [h7, e] at h
  simp only [if_true] at h
  omega
/-- all that would be sent next is dear -/
def dear (S : S9) : Prop := ∀ c, isC S c → hasN S c → 13 ≤ (bstC S c).2.1
/-- the state as the line and the clients see it -/
def seeS (S T : S9) : Prop := ∀ f, (f = 2 ∨ (5 ≤ f ∧ f ≤ 16) ∨ f = 35 ∨ f = 40) → ∀ j, T f j = S f j
theorem seeS_tr {S T U : S9} (a : seeS S T) (b : seeS T U) : seeS S U := fun f hf j => (b f hf j).trans (a f hf j)
theorem see_scr {S T : S9} (a : seeS S T) (s p : Int) : screenAt T s p = screenAt S s p := screenAt_ag (fun f h5 h6 => a f (by omega)) s p
theorem see_cnt {S T : S9} (a : seeS S T) (c : Int) : cntB T c = cntB S c := by
  unfold cntB
  refine sg_eq _ (fun i _ _ => ?_)
  show b2 (T 40 (96 * c + i) ≠ screenAt T (T 35 c) i) = _
  rw [a 40 (by omega), a 35 (by omega), see_scr a]
theorem see_all {S T : S9} (a : seeS S T) : allB T = allB S := by
  unfold allB
  rw [a 2 (by omega)]
  exact sg_eq _ (fun i _ _ => see_cnt a i)
theorem see_P {S T : S9} (a : seeS S T) (c : Int) : Pc T c = Pc S c := funext fun q => a 40 (by omega) _
theorem see_R {S T : S9} (a : seeS S T) (c : Int) : Rc T c = Rc S c := funext fun q => by
  show screenAt T (T 35 c) q = screenAt S (S 35 c) q
  rw [a 35 (by omega), see_scr a]
theorem see_has {S T : S9} (a : seeS S T) (c : Int) : hasN T c ↔ hasN S c := by
  show fst9 (Pc T c) (Rc T c) < 96 ↔ fst9 (Pc S c) (Rc S c) < 96
  rw [see_P a, see_R a]
theorem see_bst {S T : S9} (a : seeS S T) (c : Int) : bstC T c = bstC S c := by
  show bst (Pc T c) (Rc T c) = bst (Pc S c) (Rc S c)
  rw [see_P a, see_R a]
theorem see_dear {S T : S9} (a : seeS S T) (d : dear S) : dear T := fun c hc hn => by
  rw [see_bst a]
  have e := a 2 (by omega) 0
  exact d c ⟨hc.1, by have := hc.2; rw [e] at this; exact this⟩ ((see_has a c).mp hn)
/-- the line of a tick: five come right at least, or four and then all is dear; eleven where all was dear -/
theorem line_tick {S : S9} (h0 : 0 ≤ S 2 0) (hb : 0 < allB S) : (5 ≤ allB S - allB (lineS S 24 24).1 ∨ allB (lineS S 24 24).1 = 0 ∨ (4 ≤ allB S - allB (lineS S 24 24).1 ∧ dear (lineS S 24 24).1)) ∧ (dear S → 11 ≤ allB S - allB (lineS S 24 24).1) ∧ (lineS S 24 24).2 < 24 := by
  have h1 := line_all 24 (S := S) 24 h0
  have h2 := line_end 24 (S := S) 24 h0 (by decide)
  have e2 : (lineS S 24 24).1 2 0 = S 2 0 := lineS_f (by decide) 24 S 24
  have h3 := chN_neg _ h2
  rw [e2] at h3
  obtain ⟨c, hc, hn⟩ := all_has hb
  -- the first step is made
  have h4 : ∃ d, isC S d ∧ hasN S d ∧ lineS S 24 24 = lineS (sendS S d) (24 - (bstC S d).2.1) 23 := by
    refine ⟨chN S 24 (S 2 0).toNat, ?_⟩
    rcases chN_in S 24 (S 2 0).toNat with z | z
    · exfalso
      have h5 := chN_neg (S := S) (left := 24) (S 2 0).toNat (by omega) c hc.1 (by have := hc.2; have := hc.1; omega) hn
      have h6 := bstC_G hn
      have h7 := bstC_ok hn
      omega
    · refine ⟨⟨z.1, by omega⟩, z.2.2.1, ?_⟩
      have e := lineS_s S 24 23
      rw [if_neg (by omega)] at e
      exact e
  obtain ⟨d, hd, hnd, e4⟩ := h4
  have h7 := bstC_ok hnd
  have h8 := bstC_G hnd
  have h9 := send_all hd hnd
  have h10 := line_all 23 (S := sendS S d) (24 - (bstC S d).2.1) (by rw [sendS_f (by decide)]; exact h0)
  rw [← e4] at h10
  refine ⟨?_, fun hdear => ?_, by omega⟩
  · by_cases z : allB (lineS S 24 24).1 = 0
    · exact Or.inr (Or.inl z)
    · by_cases z2 : (lineS S 24 24).2 ≤ 11
      · exact Or.inl (by omega)
      · have h12 : 0 ≤ allB (lineS S 24 24).1 := (sg_in (f := fun c => cntB (lineS S 24 24).1 c) (a := 96) (by decide) (fun i _ => cntB_in) _).1
        have hdr : dear (lineS S 24 24).1 := fun c9 hc9 hn9 => by
          have := h3 c9 hc9.1 (by have := hc9.2; have := hc9.1; rw [e2] at *; omega) hn9
          omega
        obtain ⟨c9, hc9, hn9⟩ := all_has (S := (lineS S 24 24).1) (by omega)
        have h13 := h3 c9 hc9.1 (by have := hc9.2; have := hc9.1; rw [e2] at *; omega) hn9
        have h14 := bstC_G hn9
        exact Or.inr (Or.inr ⟨by omega, hdr⟩)
  · have := hdear d hd hnd
    omega
