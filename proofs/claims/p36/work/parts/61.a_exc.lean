theorem txX8_30 : Cond.classLink RX8 30 "java/lang/IllegalStateException" ∈ zT := zTm (by decide +kernel) rfl
theorem txX8_48 : Cond.classLink RX8 48 "java/lang/IllegalArgumentException" ∈ zT := zTm (by decide +kernel) rfl
theorem txX8_190 : Cond.classLink RX8 190 "java/lang/UnsupportedOperationException" ∈ zT := zTm (by decide +kernel) rfl
theorem txX8_245 : Cond.classLink RX8 245 "java/lang/IndexOutOfBoundsException" ∈ zT := zTm (by decide +kernel) rfl
theorem txX8_258 : Cond.classLink RX8 258 "java/util/NoSuchElementException" ∈ zT := zTm (by decide +kernel) rfl
theorem txI_IllegalArgumentException : Cond.initialized "java/lang/IllegalArgumentException" ∈ zT := zTm (by decide +kernel) rfl
theorem txI_IllegalStateException : Cond.initialized "java/lang/IllegalStateException" ∈ zT := zTm (by decide +kernel) rfl
theorem txI_IndexOutOfBoundsException : Cond.initialized "java/lang/IndexOutOfBoundsException" ∈ zT := zTm (by decide +kernel) rfl
theorem txI_UnsupportedOperationException : Cond.initialized "java/lang/UnsupportedOperationException" ∈ zT := zTm (by decide +kernel) rfl
theorem txI_NoSuchElementException : Cond.initialized "java/util/NoSuchElementException" ∈ zT := zTm (by decide +kernel) rfl
theorem zatX8_34 : zAtOk RX8 34 "java/lang/IllegalStateException" := zat_1
theorem zatX8_52 : zAtOk RX8 52 "java/lang/IllegalArgumentException" := zat_2
theorem zatX8_194 : zAtOk RX8 194 "java/lang/UnsupportedOperationException" := zat_4
theorem zatX8_249 : zAtOk RX8 249 "java/lang/IndexOutOfBoundsException" := zat_3
/-! the class's objects: names, and a window's picture -/
def nS (s : Int) : Nat := 1000 + 1000 * s.toNat
def nW (w : Int) : Nat := 6000 + 2 * w.toNat
def nC (c : Int) : Nat := 7000 + 10 * c.toNat
/-- a window -/
def RW (S : S9) (h : zH) (w : Int) : Prop := zK h (nW w) = 9 ∧ zf h 800 (nW w) = S 7 w ∧ zf h 801 (nW w) = S 8 w ∧ zr h 802 (nW w) = some (nW w + 1) ∧ zf h 803 (nW w) = S 5 w ∧ zf h 804 (nW w) = S 6 w ∧ zf h 805 (nW w) = S 10 w ∧ zf h 806 (nW w) = S 11 w ∧ zf h 807 (nW w) = S 12 w ∧ zf h 808 (nW w) = S 13 w ∧ zf h 809 (nW w) = S 9 w ∧ zK h (nW w + 1) = 100 ∧ zN h (nW w + 1) = S 7 w * S 8 w ∧ ∀ k, 0 ≤ k → k < S 7 w * S 8 w → za h (nW w + 1) k = S 14 (96 * w + k)
theorem RW_at {S : S9} {h h' : zH} {w : Int} (h1 : eqAt (nW w) h h') (h2 : eqAt (nW w + 1) h h') (a : RW S h w) : RW S h' w := by
  obtain ⟨b1, -, b3, -, b5, -⟩ := h1
  obtain ⟨c1, c2, -, c4, -⟩ := h2
  unfold RW at a ⊢
  simp only [b1, b3, b5, c1, c2, c4]
  exact a
theorem RW_ag {S S' : S9} {h : zH} {w : Int} (e : ∀ f, 5 ≤ f → f ≤ 13 → S' f w = S f w) (e2 : ∀ k, 0 ≤ k → k < 96 → S' 14 (96 * w + k) = S 14 (96 * w + k)) (hA : S 7 w * S 8 w ≤ 96) (a : RW S h w) : RW S' h w := by
  unfold RW at a ⊢
  simp only [e 5 (by omega) (by omega), e 6 (by omega) (by omega), e 7 (by omega) (by omega), e 8 (by omega) (by omega), e 9 (by omega) (by omega), e 10 (by omega) (by omega), e 11 (by omega) (by omega), e 12 (by omega) (by omega), e 13 (by omega) (by omega)]
  obtain ⟨k1, f0, f1, r2, f3, f4, f5, f6, f7, f8, f9, k2, n2, cs⟩ := a
  exact ⟨k1, f0, f1, r2, f3, f4, f5, f6, f7, f8, f9, k2, n2, fun k k0 k9 => (cs k k0 k9).trans (e2 k k0 (by omega)).symm⟩
theorem RW_cell {S : S9} {h : zH} {w k v : Int} (hR : RW S h w) (h0 : 0 ≤ k) : RW (up S 14 (96 * w + k) v) (sa h (nW w + 1) k v) w := by
  obtain ⟨k1, f0, f1, r2, f3, f4, f5, f6, f7, f8, f9, k2, n2, cs⟩ := hR
  refine ⟨k1, f0, f1, r2, f3, f4, f5, f6, f7, f8, f9, k2, n2, fun j j0 j1 => ?_⟩
  show z3 (za h) (nW w + 1) k v (nW w + 1) j = up S 14 (96 * w + k) v 14 (96 * w + j)
  rw [up_at]
  unfold z3
  by_cases e : j = k
  · rw [if_pos ⟨rfl, e⟩, if_pos (by omega)]
  · rw [if_neg (fun z => e z.2), if_neg (by omega)]
    exact cs j j0 j1
theorem RW_caret {S : S9} {h : zH} {w v : Int} (hR : RW S h w) : RW (up S 9 w v) (sf h 809 (nW w) v) w := by
  obtain ⟨k1, f0, f1, r2, f3, f4, f5, f6, f7, f8, f9, k2, n2, cs⟩ := hR
  exact ⟨k1, f0, f1, r2, f3, f4, f5, f6, f7, f8, z2_eq.trans up_eq.symm, k2, n2, cs⟩
