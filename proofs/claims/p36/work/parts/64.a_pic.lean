/-! repainting -/
theorem RCo_eq {h : zH} {s : Int} {q q' : Int → Int} (e : ∀ p, 0 ≤ p → p < 96 → q' p = q p) (a : RCo h s q) : RCo h s q' := ⟨a.1, a.2.1, fun p p0 p1 => (a.2.2 p p0 p1).trans (e p p0 p1).symm⟩
theorem RCo_at {h h' : zH} {s : Int} {q : Int → Int} (e : eqAt (nS s + 4) h h') (a : RCo h s q) : RCo h' s q := by
  obtain ⟨b1, b2, -, b4, -⟩ := e
  exact ⟨b1.trans a.1, b2.trans a.2.1, fun p p0 p1 => (b4 p).trans (a.2.2 p p0 p1)⟩
theorem RCo_st {h : zH} {s i v : Int} {q : Int → Int} (a : RCo h s q) : RCo (sa h (nS s + 4) i v) s (fun p => if p = i then v else q p) := by
  refine ⟨a.1, a.2.1, fun p p0 p1 => ?_⟩
  by_cases z : p = i
  · subst z
    exact z3_eq.trans (if_pos rfl).symm
  · exact ((z3_ni z).trans (a.2.2 p p0 p1)).trans (if_neg z).symm
theorem sg_monoN {f : Int → Int} (h : ∀ i, 0 ≤ f i) (n : Nat) : ∀ m : Nat, sg f n ≤ sg f (n + m)
  | 0 => Int.le_refl _
  | m + 1 => Int.le_trans (sg_monoN h n m) (by
      show sg f (n + m) ≤ sg f (n + m) + f ((n + m : Nat) : Int)
      have := h ((n + m : Nat) : Int)
      omega)
theorem sg_mono {f : Int → Int} (h : ∀ i, 0 ≤ f i) {a b : Int} (hab : a ≤ b) : sg f a.toNat ≤ sg f b.toNat := by
  rw [show b.toNat = a.toNat + (b.toNat - a.toNat) by omega]
  exact sg_monoN h _ _
