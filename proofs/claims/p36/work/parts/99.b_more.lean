/-! the next change, clipboards' way, recordings -/
def QN (S : S9) (h : zH) (c : Int) : zO → zH → Prop := fun o h' => RC S h' ∧ FL h h' ∧ ((isC S c ∧ hasN S c ∧ o = .inl (some (zR (some (nC c + 1)))) ∧ zK h' (nC c + 1) = 2 ∧ zf h' 104 (nC c + 1) = (bstC S c).1 ∧ zf h' 105 (nC c + 1) = (bstC S c).2.1) ∨ (¬ isC S c ∧ o = .inr exI) ∨ (isC S c ∧ ¬ hasN S c ∧ o = .inr exN))
theorem QN_l {S : S9} {h h' : zH} {c : Int} {v : Option zV} (q : QN S h c (.inl v) h') : RC S h' ∧ FL h h' ∧ isC S c ∧ hasN S c ∧ v = some (zR (some (nC c + 1))) ∧ zK h' (nC c + 1) = 2 ∧ zf h' 104 (nC c + 1) = (bstC S c).1 ∧ zf h' 105 (nC c + 1) = (bstC S c).2.1 := by
  obtain ⟨q1, q2, q3 | ⟨q3, q4⟩ | ⟨q3, q5, q4⟩⟩ := q
  · exact ⟨q1, q2, q3.1, q3.2.1, Sum.inl.inj q3.2.2.1, q3.2.2.2⟩
  · cases q4
  · cases q4
theorem QN_r {S : S9} {h h' : zH} {c : Int} {E : String} (q : QN S h c (.inr E) h') : RC S h' ∧ FL h h' ∧ ((¬ isC S c ∧ E = exI) ∨ (isC S c ∧ ¬ hasN S c ∧ E = exN)) := by
  obtain ⟨q1, q2, q3 | ⟨q3, q4⟩ | ⟨q3, q5, q4⟩⟩ := q
  · cases q3.2.2.1
  · exact ⟨q1, q2, Or.inl ⟨q3, Sum.inr.inj q4⟩⟩
  · exact ⟨q1, q2, Or.inr ⟨q3, q5, Sum.inr.inj q4⟩⟩
theorem FL_m {h h' : zH} (a : FL h h') : ∀ m, (m = 6 ∨ m = 7 ∨ (99 ≤ m ∧ m ≤ 142)) → eqAt m h h' := fun m hm => a m (fun c k _ _ _ => by unfold nC; omega)
theorem bst_kind {S : S9} {c : Int} (h : hasN S c) : (bstC S c).1 = 99 ∨ (bstC S c).1 = 102 ∨ (bstC S c).1 = 114 := by
  have z := bstC_ok h
  rcases z.1 with y | y
  · omega
  · exact y.2.1
/-- the program where only a session's last played picture, or its recording, is another -/
theorem RC_rec {S S' : S9} {h h' : zH} {s : Int} (hI : IJ S) (hJ : JJ S') (hs : isS S s) (s4 : s < 4) (e : ∀ f, (f < 31 ∨ 34 < f) → ∀ j, S' f j = S f j) (e2 : ∀ f j, ¬ inS s f j → S' f j = S f j) (hf : ∀ m, m ≠ nS s → (∀ j, 9 ≤ j → j ≤ 14 → m ≠ nS s + j) → eqAt m h h') (ho : RSo S' h' s) (hn : S' 31 s = 1 → RR S' h' s) (hn2 : S' 31 s ≠ 1 → ∀ j, 9 ≤ j → j ≤ 14 → zK h' (nS s + j) = 0) (a : RC S h) : RC S' h' := by
  refine RC_sesJ hI hJ hs e2 (RSes_rec hJ e hf ho hn hn2 (a.2.1 s hs)) (fun m hm _ => hf m ((nmS_no hm).1 0 (by decide)) (fun j j0 j1 => (nmS_no hm).1 j (by omega))) (fun w w0 w1 => ?_) a
  rw [e 4 (by decide)] at w0
  have hb := hI.1.1.2.2.2.2 s hs.1 s4
  have s0 := hs.1
  have z := RC_freeW a hs.1 s4 w w0 w1
  exact ⟨(hf _ (by unfold nS nW; omega) (fun j _ _ => by unfold nS nW; omega)).1.trans z.1, (hf _ (by unfold nS nW; omega) (fun j _ _ => by unfold nS nW; omega)).1.trans z.2⟩
/-- a bit of four -/
theorem and_bit {a b c d i v : Int} (ha : a = 0 ∨ a = 1) (hb : b = 0 ∨ b = 1) (hc : c = 0 ∨ c = 1) (hd : d = 0 ∨ d = 1) (hv : (i = 0 ∧ v = 1) ∨ (i = 1 ∧ v = 2) ∨ (i = 2 ∧ v = 4) ∨ (i = 3 ∧ v = 8)) : ∃ x : Int, Int32.ofInt (a + 2 * b + 4 * c + 8 * d) &&& Int32.ofInt v = Int32.ofInt x ∧ 0 ≤ x ∧ x ≤ 8 ∧ (x = 0 ↔ (if i = 0 then a else if i = 1 then b else if i = 2 then c else d) = 0) := by
  rcases hv with ⟨rfl, rfl⟩ | ⟨rfl, rfl⟩ | ⟨rfl, rfl⟩ | ⟨rfl, rfl⟩ <;> rcases ha with rfl | rfl <;> rcases hb with rfl | rfl <;> rcases hc with rfl | rfl <;> rcases hd with rfl | rfl <;> first
    | exact ⟨0, by decide +kernel, by decide⟩
    | exact ⟨1, by decide +kernel, by decide⟩
    | exact ⟨2, by decide +kernel, by decide⟩
    | exact ⟨4, by decide +kernel, by decide⟩
    | exact ⟨8, by decide +kernel, by decide⟩
theorem or_bit {a b c d i v : Int} (ha : a = 0 ∨ a = 1) (hb : b = 0 ∨ b = 1) (hc : c = 0 ∨ c = 1) (hd : d = 0 ∨ d = 1) (hv : (i = 0 ∧ v = 1) ∨ (i = 1 ∧ v = 2) ∨ (i = 2 ∧ v = 4) ∨ (i = 3 ∧ v = 8)) : Int32.ofInt (a + 2 * b + 4 * c + 8 * d) ||| Int32.ofInt v = Int32.ofInt (b2 ((0 : Int) = i ∨ a = 1) + 2 * b2 ((1 : Int) = i ∨ b = 1) + 4 * b2 ((2 : Int) = i ∨ c = 1) + 8 * b2 ((3 : Int) = i ∨ d = 1)) := by
  rcases hv with ⟨rfl, rfl⟩ | ⟨rfl, rfl⟩ | ⟨rfl, rfl⟩ | ⟨rfl, rfl⟩ <;> rcases ha with rfl | rfl <;> rcases hb with rfl | rfl <;> rcases hc with rfl | rfl <;> rcases hd with rfl | rfl <;> decide +kernel
theorem mayN_0 {S : S9} {a b : Int} {n : Nat} (h : mayN S a b n = 0) : ∀ m : Nat, mayN S a b (n + m) = 0
  | 0 => h
  | m + 1 => by
    have z := mayN_0 h m
    show mayN S a b (n + m + 1) = 0
    rw [mayN_s, z, b2_f (fun y => absurd y.1 (by decide))]
theorem RClp_pas {S : S9} {h : zH} {x y : Int} (k : zK h (nS y + 5) = 4) (hx : S 22 x ≠ 0) : RClp (pasS S x y) (sf (sf (sf h 300 (nS y + 5) (S 23 x)) 301 (nS y + 5) (S 22 x - 1)) 302 (nS y + 5) (b2 ((0 : Int) = y ∨ S 24 (4 * x) = 1) + 2 * b2 ((1 : Int) = y ∨ S 24 (4 * x + 1) = 1) + 4 * b2 ((2 : Int) = y ∨ S 24 (4 * x + 2) = 1) + 8 * b2 ((3 : Int) = y ∨ S 24 (4 * x + 3) = 1))) y := by
  refine ⟨k, fun z => ?_, fun _ => ⟨?_, ?_, ?_⟩⟩
  · rw [pasS_22, if_pos rfl] at z
    exact absurd z hx
  · rw [pasS_23, if_pos rfl]
    simp [s_ff]
  · rw [pasS_22, if_pos rfl]
    simp [s_ff]
  · have e0 := pasS_24 (S := S) (a := x) (b := y) (o := 0) (by decide) (by decide)
    rw [Int.add_zero, Int.add_zero] at e0
    rw [e0, pasS_24 (by decide) (by decide), pasS_24 (by decide) (by decide), pasS_24 (by decide) (by decide)]
    simp [s_ff]
