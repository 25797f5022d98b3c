/-! a session's recording -/
/-- its fields and rows -/
def RRf (h : zH) (s : Int) : Prop := (zK h (nS s + 9) = 6 ∧ zr h 500 (nS s + 9) = some (nS s + 10) ∧ zr h 501 (nS s + 9) = some (nS s + 11) ∧ zr h 502 (nS s + 9) = some (nS s + 12) ∧ zr h 503 (nS s + 9) = some (nS s + 13) ∧ zr h 504 (nS s + 9) = some (nS s + 14)) ∧ (zK h (nS s + 10) = 100 ∧ zN h (nS s + 10) = 5760) ∧ (zK h (nS s + 11) = 100 ∧ zN h (nS s + 11) = 5760) ∧ (zK h (nS s + 12) = 100 ∧ zN h (nS s + 12) = 61) ∧ (zK h (nS s + 13) = 100 ∧ zN h (nS s + 13) = 96) ∧ zK h (nS s + 14) = 100 ∧ zN h (nS s + 14) = 96
/-- a picture after n notes -/
def plN (cl co : Int → Int) : Nat → Int → Int
  | 0 => fun _ => 0
  | n + 1 => fun p => if p = cl n then co n else plN cl co n p
theorem plN_s (cl co : Int → Int) (n : Nat) (p : Int) : plN cl co (n + 1) p = if p = cl n then co n else plN cl co n p := rfl
theorem plN_eq {cl co cl' co' : Int → Int} {p : Int} : ∀ n : Nat, (∀ i, 0 ≤ i → i < n → cl' i = cl i ∧ co' i = co i) → plN cl' co' n p = plN cl co n p
  | 0, _ => rfl
  | n + 1, h => by
    have h1 := h n (by omega) (by omega)
    rw [plN_s, plN_s, h1.1, h1.2, plN_eq n (fun i i0 i1 => h i i0 (by omega))]
/-- .. with its notes: the picture last looked at, how many notes -/
def RRx (S : S9) (h : zH) (s : Int) (lk : Int → Int) (cnt : Int) : Prop := RRf h s ∧ (zf h 505 (nS s + 9) = S 32 s ∧ zf h 506 (nS s + 9) = cnt) ∧ (∀ p, 0 ≤ p → p < 96 → za h (nS s + 13) p = lk p ∧ plN (za h (nS s + 10)) (za h (nS s + 11)) cnt.toNat p = lk p) ∧ (∀ i, 0 ≤ i → i < cnt → 0 ≤ za h (nS s + 10) i ∧ za h (nS s + 10) i < 96) ∧ ∀ t, 1 ≤ t → t ≤ S 32 s → (0 ≤ za h (nS s + 12) t ∧ za h (nS s + 12) t ≤ cnt) ∧ ∀ p, 0 ≤ p → p < 96 → plN (za h (nS s + 10)) (za h (nS s + 11)) (za h (nS s + 12) t).toNat p = S 34 ((60 * s + (t - 1)) * 96 + p)
def RR (S : S9) (h : zH) (s : Int) : Prop := RRx S h s (oldL S s) (S 33 s)
theorem RRf_at {h h' : zH} {s : Int} (e : ∀ j, 9 ≤ j → j ≤ 14 → eqAt (nS s + j) h h') (a : RRf h s) : RRf h' s := by
  obtain ⟨b1, -, -, -, b5, -⟩ := e 9 (by decide) (by decide)
  obtain ⟨c1, c2, -⟩ := e 10 (by decide) (by decide)
  obtain ⟨d1, d2, -⟩ := e 11 (by decide) (by decide)
  obtain ⟨f1, f2, -⟩ := e 12 (by decide) (by decide)
  obtain ⟨g1, g2, -⟩ := e 13 (by decide) (by decide)
  obtain ⟨k1, k2, -⟩ := e 14 (by decide) (by decide)
  unfold RRf at a ⊢
  simp only [b1, b5, c1, c2, d1, d2, f1, f2, g1, g2, k1, k2]
  exact a
theorem RRx_14 {S : S9} {h h' : zH} {s cnt : Int} {lk : Int → Int} (e : ∀ m, m ≠ nS s + 14 → eqAt m h h') (k : zK h' (nS s + 14) = 100) (n : zN h' (nS s + 14) = 96) (a : RRx S h s lk cnt) : RRx S h' s lk cnt := by
  obtain ⟨b1, -, b3, -, b5, -⟩ := e (nS s + 9) (by omega)
  obtain ⟨c1, c2, -, c4, -⟩ := e (nS s + 10) (by omega)
  obtain ⟨d1, d2, -, d4, -⟩ := e (nS s + 11) (by omega)
  obtain ⟨f1, f2, -, f4, -⟩ := e (nS s + 12) (by omega)
  obtain ⟨g1, g2, -, g4, -⟩ := e (nS s + 13) (by omega)
  have hc : za h' (nS s + 10) = za h (nS s + 10) := funext c4
  have hd : za h' (nS s + 11) = za h (nS s + 11) := funext d4
  obtain ⟨⟨a1, a2, a3, a4, a5, a6, a7⟩, a8, a9, a10, a11⟩ := a
  unfold RRx RRf
  simp only [b1, b3, b5, c1, c2, d1, d2, f1, f2, g1, g2, f4, g4, hc, hd]
  exact ⟨⟨a1, a2, a3, a4, a5, k, n⟩, a8, a9, a10, a11⟩
theorem RRx_at {S : S9} {h h' : zH} {s cnt : Int} {lk : Int → Int} (e : ∀ j, 9 ≤ j → j ≤ 14 → eqAt (nS s + j) h h') (a : RRx S h s lk cnt) : RRx S h' s lk cnt := by
  obtain ⟨b1, -, b3, -, b5, -⟩ := e 9 (by decide) (by decide)
  obtain ⟨c1, c2, -, c4, -⟩ := e 10 (by decide) (by decide)
  obtain ⟨d1, d2, -, d4, -⟩ := e 11 (by decide) (by decide)
  obtain ⟨f1, f2, -, f4, -⟩ := e 12 (by decide) (by decide)
  obtain ⟨g1, g2, -, g4, -⟩ := e 13 (by decide) (by decide)
  obtain ⟨k1, k2, -, k4, -⟩ := e 14 (by decide) (by decide)
  have hc : za h' (nS s + 10) = za h (nS s + 10) := funext c4
  have hd : za h' (nS s + 11) = za h (nS s + 11) := funext d4
  unfold RRx RRf at a ⊢
  simp only [b1, b3, b5, c1, c2, d1, d2, f1, f2, g1, g2, k1, k2, f4, g4, hc, hd]
  exact a
/-- one cell looked at that is another now -/
def lookH (h : zH) (s p v cnt : Int) : zH := sa (sf (sa (sa h (nS s + 10) cnt p) (nS s + 11) cnt v) 506 (nS s + 9) (cnt + 1)) (nS s + 13) p v
theorem RRx_look {S : S9} {h : zH} {s cnt q v : Int} {lk : Int → Int} (c0 : 0 ≤ cnt) (q0 : 0 ≤ q) (q1 : q < 96) (a : RRx S h s lk cnt) : RRx S (lookH h s q v cnt) s (fun p => if p = q then v else lk p) (cnt + 1) := by
  obtain ⟨a1, ⟨a2, a3⟩, a4, a5, a6⟩ := a
  have e10 : ∀ i, za (lookH h s q v cnt) (nS s + 10) i = if i = cnt then q else za h (nS s + 10) i := fun i => by
    show z3 (z3 (z3 (za h) (nS s + 10) cnt q) (nS s + 11) cnt v) (nS s + 13) q v (nS s + 10) i = _
    rw [z3_nn (by omega), z3_nn (by omega)]
    by_cases z : i = cnt
    · rw [if_pos z, z]; exact z3_eq
    · rw [if_neg z]; exact z3_ni z
  have e11 : ∀ i, za (lookH h s q v cnt) (nS s + 11) i = if i = cnt then v else za h (nS s + 11) i := fun i => by
    show z3 (z3 (z3 (za h) (nS s + 10) cnt q) (nS s + 11) cnt v) (nS s + 13) q v (nS s + 11) i = _
    rw [z3_nn (by omega)]
    by_cases z : i = cnt
    · rw [if_pos z, z]; exact z3_eq
    · rw [if_neg z]; exact (z3_ni z).trans (z3_nn (by omega))
  have e12 : ∀ i, za (lookH h s q v cnt) (nS s + 12) i = za h (nS s + 12) i := fun i => by
    show z3 (z3 (z3 (za h) (nS s + 10) cnt q) (nS s + 11) cnt v) (nS s + 13) q v (nS s + 12) i = _
    rw [z3_nn (by omega), z3_nn (by omega), z3_nn (by omega)]
  have e13 : ∀ i, za (lookH h s q v cnt) (nS s + 13) i = if i = q then v else za h (nS s + 13) i := fun i => by
    show z3 (z3 (z3 (za h) (nS s + 10) cnt q) (nS s + 11) cnt v) (nS s + 13) q v (nS s + 13) i = _
    by_cases z : i = q
    · rw [if_pos z, z]; exact z3_eq
    · rw [if_neg z]; exact (z3_ni z).trans ((z3_nn (by omega)).trans (z3_nn (by omega)))
  have ep : ∀ (n : Nat) (p : Int), (n : Int) ≤ cnt → plN (za (lookH h s q v cnt) (nS s + 10)) (za (lookH h s q v cnt) (nS s + 11)) n p = plN (za h (nS s + 10)) (za h (nS s + 11)) n p := fun n p hn => plN_eq n (fun i i0 i1 => ⟨(e10 i).trans (if_neg (by omega)), (e11 i).trans (if_neg (by omega))⟩)
  refine ⟨a1, ⟨(show z2 (zf h) 506 (nS s + 9) (cnt + 1) 505 (nS s + 9) = _ from (z2_ni (by decide)).trans a2), (show z2 (zf h) 506 (nS s + 9) (cnt + 1) 506 (nS s + 9) = _ from z2_eq)⟩, fun p p0 p1 => ⟨?_, ?_⟩, fun i i0 i1 => ?_, fun t t0 t1 => ⟨?_, fun p p0 p1 => ?_⟩⟩
  · rw [e13, (a4 p p0 p1).1]
  · rw [show (cnt + 1).toNat = cnt.toNat + 1 by omega, plN_s, ep _ _ (by omega), show ((cnt.toNat : Nat) : Int) = cnt by omega, e10, e11, if_pos rfl, if_pos rfl, (a4 p p0 p1).2]
  · rw [e10]
    split
    · exact ⟨q0, q1⟩
    · exact a5 i i0 (by omega)
  · rw [e12]
    have := (a6 t t0 t1).1
    omega
  · rw [e12, ep _ _ (by have := (a6 t t0 t1).1; omega)]
    exact (a6 t t0 t1).2 p p0 p1
theorem RRx_eq {S S' : S9} {h : zH} {s cnt cnt' : Int} {lk lk' : Int → Int} (e1 : cnt' = cnt) (e2 : ∀ p, 0 ≤ p → p < 96 → lk' p = lk p) (e3 : S' 32 s = S 32 s) (e4 : ∀ t p, 1 ≤ t → t ≤ S 32 s → 0 ≤ p → p < 96 → S' 34 ((60 * s + (t - 1)) * 96 + p) = S 34 ((60 * s + (t - 1)) * 96 + p)) (a : RRx S h s lk cnt) : RRx S' h s lk' cnt' := by
  subst e1
  obtain ⟨a1, ⟨a2, a3⟩, a4, a5, a6⟩ := a
  refine ⟨a1, ⟨a2.trans e3.symm, a3⟩, fun p p0 p1 => ?_, a5, fun t t0 t1 => ?_⟩
  · rw [e2 p p0 p1]
    exact a4 p p0 p1
  · rw [e3] at t1
    exact ⟨(a6 t t0 t1).1, fun p p0 p1 => ((a6 t t0 t1).2 p p0 p1).trans (e4 t p t0 t1 p0 p1).symm⟩
/-- a tick ended -/
theorem RRx_end {S S' : S9} {h : zH} {s cnt : Int} {lk : Int → Int} (c0 : 0 ≤ cnt) (e3 : S' 32 s = S 32 s + 1) (e4 : ∀ t p, 1 ≤ t → t ≤ S 32 s → 0 ≤ p → p < 96 → S' 34 ((60 * s + (t - 1)) * 96 + p) = S 34 ((60 * s + (t - 1)) * 96 + p)) (e5 : ∀ p, 0 ≤ p → p < 96 → S' 34 ((60 * s + S 32 s) * 96 + p) = lk p) (a : RRx S h s lk cnt) : RRx S' (sa (sf h 505 (nS s + 9) (S 32 s + 1)) (nS s + 12) (S 32 s + 1) cnt) s lk cnt := by
  obtain ⟨a1, ⟨a2, a3⟩, a4, a5, a6⟩ := a
  have f10 : za (sa (sf h 505 (nS s + 9) (S 32 s + 1)) (nS s + 12) (S 32 s + 1) cnt) (nS s + 10) = za h (nS s + 10) := funext fun i => z3_nn (by omega)
  have f11 : za (sa (sf h 505 (nS s + 9) (S 32 s + 1)) (nS s + 12) (S 32 s + 1) cnt) (nS s + 11) = za h (nS s + 11) := funext fun i => z3_nn (by omega)
  refine ⟨a1, ⟨(show z2 (zf h) 505 (nS s + 9) (S 32 s + 1) 505 (nS s + 9) = _ from z2_eq.trans e3.symm), (show z2 (zf h) 505 (nS s + 9) (S 32 s + 1) 506 (nS s + 9) = _ from (z2_ni (by decide)).trans a3)⟩, fun p p0 p1 => ?_, fun i i0 i1 => ?_, fun t t0 t1 => ?_⟩
  · rw [f10, f11]
    exact ⟨(show z3 (za h) (nS s + 12) (S 32 s + 1) cnt (nS s + 13) p = _ from (z3_nn (by omega)).trans (a4 p p0 p1).1), (a4 p p0 p1).2⟩
  · rw [f10]
    exact a5 i i0 i1
  · rw [f10, f11]
    rw [e3] at t1
    by_cases z : t = S 32 s + 1
    · rw [z]
      have e : za (sa (sf h 505 (nS s + 9) (S 32 s + 1)) (nS s + 12) (S 32 s + 1) cnt) (nS s + 12) (S 32 s + 1) = cnt := z3_eq
      rw [e]
      refine ⟨⟨c0, Int.le_refl _⟩, fun p p0 p1 => ?_⟩
      rw [(a4 p p0 p1).2, show S 32 s + 1 - 1 = S 32 s by omega, e5 p p0 p1]
    · have e : za (sa (sf h 505 (nS s + 9) (S 32 s + 1)) (nS s + 12) (S 32 s + 1) cnt) (nS s + 12) t = za h (nS s + 12) t := z3_ni z
      rw [e]
      refine ⟨(a6 t t0 (by omega)).1, fun p p0 p1 => ?_⟩
      rw [e4 t p t0 (by omega) p0 p1]
      exact (a6 t t0 (by omega)).2 p p0 p1
/-- a recording begun anew -/
theorem RRx_beg {S : S9} {h : zH} {s : Int} (a : RRf h s) (e32 : S 32 s = 0) (f5 : zf h 505 (nS s + 9) = 0) (f6 : zf h 506 (nS s + 9) = 0) (e : ∀ p, 0 ≤ p → p < 96 → za h (nS s + 13) p = 0) : RRx S h s (oldL S s) 0 := by
  refine ⟨a, ⟨f5.trans e32.symm, f6⟩, fun p p0 p1 => ?_, fun i i0 i1 => by omega, fun t t0 t1 => by omega⟩
  unfold oldL
  rw [if_pos e32]
  exact ⟨e p p0 p1, rfl⟩
theorem RR_z32 {S : S9} {h : zH} {s : Int} (a : RR S h s) : zf h 505 (nS s + 9) = S 32 s ∧ zf h 506 (nS s + 9) = S 33 s := a.2.1
