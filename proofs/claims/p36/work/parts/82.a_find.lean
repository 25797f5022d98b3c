/-! a client's next change found, and made -/
theorem mn3 (a b c : Int) : ∃ m : Int, m ≤ a ∧ m ≤ b ∧ m ≤ c ∧ (m = a ∨ m = b ∨ m = c) := by
  by_cases h1 : a ≤ b
  · by_cases h2 : a ≤ c
    · exact ⟨a, by omega, by omega, by omega, Or.inl rfl⟩
    · exact ⟨c, by omega, by omega, by omega, Or.inr (Or.inr rfl)⟩
  · by_cases h2 : b ≤ c
    · exact ⟨b, by omega, by omega, by omega, Or.inr (Or.inl rfl)⟩
    · exact ⟨c, by omega, by omega, by omega, Or.inr (Or.inr rfl)⟩
theorem c_X0_tryCopy {l : Launch} (hl : l.stackTraces = false) {S : S9} {h : zH} {c : Int} (hR : RCh S h c) (hC : RCo h (S 35 c) (screenAt S (S 35 c))) (c1 : c < 6) (s0 : 0 ≤ S 35 c) (s1 : S 35 c < 4) {b : T6} (hB : CBr h (nC c + 1) b) (p : Int) (p0 : 0 ≤ p) (p1 : p < 96) (e7 : zf h 107 (nC c + 1) = p) (ra ca : Int) (hra : -2 ≤ ra ∧ ra ≤ 2) (hca : -2 ≤ ca ∧ ca ≤ 2) (hz : ra ≠ 0 ∨ ca ≠ 0) : zC l MX0_tryRectangles [zR (some (nC c + 1)), zI ra, zI ca] h (fun o h' => o = .inl none ∧ CBr h' (nC c + 1) (cpW (Pc S c) (Rc S c) p (5 * (ra + 2) + (ca + 2)) b 5) ∧ RCh S h' c ∧ zf h' 107 (nC c + 1) = p ∧ (∀ m, m ≠ nC c + 1 → m ≠ nC c + 4 → eqAt m h h')) := by
  obtain ⟨ww, w1, w2, w3, w4⟩ := mn3 6 (12 - p % 12) (12 - (p % 12 + ca))
  obtain ⟨hh, g1, g2, g3, g4⟩ := mn3 4 (8 - p / 12) (8 - (p / 12 + ra))
  exact c_X0_tryRectangles hl hR hC c1 s0 s1 hB p p0 p1 e7 ra ca hra hca ww hh _ (fun z => absurd z (by omega)) (fun _ => ⟨⟨w1, w2, w3, w4⟩, g1, g2, g3, g4⟩) (fun y1 y2 => stB_cp p0 p1 hra hca hz y1 y2 ⟨⟨w1, w2, w3, w4⟩, g1, g2, g3, g4⟩) (fun y => cp_ret p0 p1 hra hca y)
theorem c_X0_tryFill {l : Launch} (hl : l.stackTraces = false) {S : S9} {h : zH} {c : Int} (hR : RCh S h c) (hC : RCo h (S 35 c) (screenAt S (S 35 c))) (c1 : c < 6) (s0 : 0 ≤ S 35 c) (s1 : S 35 c < 4) {b : T6} (hB : CBr h (nC c + 1) b) (p : Int) (p0 : 0 ≤ p) (p1 : p < 96) (e7 : zf h 107 (nC c + 1) = p) : zC l MX0_tryRectangles [zR (some (nC c + 1)), zI 0, zI 0] h (fun o h' => o = .inl none ∧ CBr h' (nC c + 1) (flW (Pc S c) (Rc S c) p b 12) ∧ RCh S h' c ∧ zf h' 107 (nC c + 1) = p ∧ (∀ m, m ≠ nC c + 1 → m ≠ nC c + 4 → eqAt m h h')) :=
  c_X0_tryRectangles hl hR hC c1 s0 s1 hB p p0 p1 e7 0 0 (by decide) (by decide) (12 - p % 12) (8 - p / 12) _ (fun _ => ⟨rfl, rfl⟩) (fun z => absurd rfl z) (fun _ _ => stB_fl p0 p1 rfl rfl) (fun y => absurd y (by omega))
theorem tr_pos {b : T6} {t k g w d r : Int} (hb : bnd b) (hk : 3 ≤ k) (hg : 0 < g) : 0 < (tr b (t, k, g, w, d, r)).2.2.1 ∧ 3 ≤ (tr b (t, k, g, w, d, r)).2.1 := by
  unfold tr
  split
  · exact ⟨hg, hk⟩
  · rename_i z
    have z1 : ¬ b.2.1 = 0 := fun y => z (Or.inl y)
    have z2 : ¬ b.2.2.1 * k < g * b.2.1 := fun y => z (Or.inr y)
    rcases hb with y | y
    · exact absurd y z1
    · refine ⟨?_, y.1⟩
      have h1 : 0 < g * b.2.1 := Int.mul_pos hg (by omega)
      exact Int.pos_of_mul_pos_left (b := k) (by omega) (by omega)
/-- the change that was found -/
def CFd (S : S9) (h : zH) (c : Int) : Prop := (¬ hasN S c ∧ zf h 104 (nC c + 1) = 32) ∨ (hasN S c ∧ zf h 104 (nC c + 1) = (bstC S c).1 ∧ zf h 105 (nC c + 1) = (bstC S c).2.1 ∧ zf h 107 (nC c + 1) = fstC S c ∧ zf h 108 (nC c + 1) = (bstC S c).2.2.2.2.2 ∧ zf h 109 (nC c + 1) = (bstC S c).2.2.2.1 ∧ zf h 110 (nC c + 1) = (bstC S c).2.2.2.2.1)
theorem CFd_no {S : S9} {h : zH} {c i : Int} (hi : fst9 (Pc S c) (Rc S c) = i) (z : 96 ≤ i) (hB : CBr h (nC c + 1) (0, 0, 0, 0, 0, 0)) : CFd S h c := by
  refine Or.inl ⟨fun y => ?_, ?_⟩
  · have y : fst9 (Pc S c) (Rc S c) < 96 := y
    omega
  · rcases hB.2 with y | y
    · exact y.1
    · exact absurd y.1 (by decide)
theorem CFd_ye {S : S9} {h h1 : zH} {c i : Int} (hi : fst9 (Pc S c) (Rc S c) = i) (z : i < 96) (hr : 1 ≤ run9 (Pc S c) (Rc S c) i) (hB1 : CBr h1 (nC c + 1) (flW (Pc S c) (Rc S c) i (cpA (Pc S c) (Rc S c) i (0, 0, 0, 0, 0, 0) 25) 12)) (hB : CBr h (nC c + 1) (tr (flW (Pc S c) (Rc S c) i (cpA (Pc S c) (Rc S c) i (0, 0, 0, 0, 0, 0) 25) 12) (114, 2 + run9 (Pc S c) (Rc S c) i, run9 (Pc S c) (Rc S c) i, run9 (Pc S c) (Rc S c) i, 1, 0))) (e7 : zf h 107 (nC c + 1) = i) : CFd S h c := by
  have eb : bstC S c = tr (flW (Pc S c) (Rc S c) i (cpA (Pc S c) (Rc S c) i (0, 0, 0, 0, 0, 0) 25) 12) (114, 2 + run9 (Pc S c) (Rc S c) i, run9 (Pc S c) (Rc S c) i, run9 (Pc S c) (Rc S c) i, 1, 0) := by
    show bst (Pc S c) (Rc S c) = _
    unfold bst
    rw [hi]
  have hp := tr_pos (t := 114) (k := 2 + run9 (Pc S c) (Rc S c) i) (g := run9 (Pc S c) (Rc S c) i) (w := run9 (Pc S c) (Rc S c) i) (d := 1) (r := 0) hB1.1 (by omega) (by omega)
  refine Or.inr ⟨by show fst9 (Pc S c) (Rc S c) < 96; omega, ?_⟩
  rw [eb]
  rcases hB.2 with y | y
  · omega
  · exact ⟨y.2.2.1, y.2.2.2.1, e7.trans hi.symm, y.2.2.2.2.2.2.2, y.2.2.2.2.2.1, y.2.2.2.2.2.2.1⟩
theorem CBr_0 {h : zH} {n : Nat} (a : zf h 104 n = 32) (b : zf h 105 n = 1) (d : zf h 106 n = 0) : CBr h n (0, 0, 0, 0, 0, 0) := ⟨Or.inl rfl, Or.inl ⟨a, b, d, Or.inl rfl⟩⟩
theorem RCh_st {S S' : S9} {h : zH} {c q v : Int} (e : S' 35 c = S 35 c) (e2 : ∀ j, 0 ≤ j → j < 96 → S' 40 (96 * c + j) = if j = q then v else S 40 (96 * c + j)) (a : RCh S h c) : RCh S' (sa h (nC c + 2) q v) c := by
  obtain ⟨⟨⟨r1, r2, r3⟩, r4, r5, r6⟩, a2, a3, a4⟩ := a
  refine ⟨⟨⟨r1, r2, ?_⟩, r4, r5, fun j j0 j1 => ?_⟩, a2, a3, a4⟩
  · rw [e]
    exact r3
  · rw [e2 j j0 j1]
    by_cases z : j = q
    · rw [z, if_pos rfl]
      exact z3_eq
    · rw [if_neg z]
      exact (z3_ni z).trans (r6 j j0 j1)
theorem RCh_agf {S S' : S9} {h : zH} {c : Int} (e : S' 35 c = S 35 c) (e2 : ∀ j, 0 ≤ j → j < 96 → S' 40 (96 * c + j) = S 40 (96 * c + j)) (a : RCh S h c) : RCh S' h c := by
  obtain ⟨⟨⟨r1, r2, r3⟩, r4, r5, r6⟩, a2, a3, a4⟩ := a
  exact ⟨⟨⟨r1, r2, by rw [e]; exact r3⟩, r4, r5, fun j j0 j1 => (r6 j j0 j1).trans (e2 j j0 j1).symm⟩, a2, a3, a4⟩
theorem RCh_chg {S : S9} {h : zH} {c : Int} {P R : Int → Int} {b : T6} {p k y x : Int} (hp : 0 ≤ p ∧ p < 96) (hk : 0 ≤ k) (hw : 1 ≤ b.2.2.2.1) (hv : vld (p % 12) (p / 12) b.2.2.2.1 b.2.2.2.2.1) (ey : k / b.2.2.2.1 = y) (ex : k % b.2.2.2.1 = x) (hy : y < b.2.2.2.2.1) (a : RCh (chgI S c P R b p k) h c) : RCh (chgI S c P R b p (k + 1)) (sa h (nC c + 2) (p + y * 12 + x) (colC P R b p (p + y * 12 + x))) c := by
  refine RCh_st ?_ (fun j j0 j1 => ?_) a
  · show (if _ then _ else _) = if _ then _ else _
    rw [if_neg (by omega), if_neg (by omega)]
  · rw [chgI_s hp hk hw hv (by omega), ey, ex]
    by_cases z : j = p + y * 12 + x
    · rw [if_pos z, z, up_eq]
    · rw [if_neg z, up_i (by omega)]
theorem RCh_3 {S : S9} {h h' : zH} {c : Int} (f4 : ∀ m, m ≠ nC c + 3 → eqAt m h h') (f1 : zK h' (nC c + 3) = zK h (nC c + 3)) (f2 : zN h' (nC c + 3) = zN h (nC c + 3)) (a : RCh S h c) : RCh S h' c := by
  obtain ⟨a1, a2, a3, a4⟩ := a
  have e1 := f4 (nC c + 1) (by omega)
  have e4 := f4 (nC c + 4) (by omega)
  obtain ⟨-, -, -, -, b5, -⟩ := id e1
  refine ⟨RPc_at e1 (f4 (nC c + 2) (by omega)) a1, ?_, ⟨f1.trans a3.1, f2.trans a3.2⟩, e4.1.trans a4.1, e4.2.1.trans a4.2⟩
  rw [b5, b5]
  exact a2
