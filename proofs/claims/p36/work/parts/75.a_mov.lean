theorem cntL_in {S : S9} {s : Int} : 0 ≤ cntL S s ∧ cntL S s ≤ 8 := sg_in1 (f := fun r => isL S s r) (fun _ _ => isL_le) 8 (by decide)
theorem RT_end {S : S9} {h : zH} {s : Int} (a : RT S h s) : RT (up (up (up S 27 s 1) 26 s 0) 28 s (S 28 s + 1)) (sf (sf h 702 (nS s + 6) 0) 703 (nS s + 6) (S 28 s + 1)) s := by
  obtain ⟨⟨o1, o2, o3, o4, o5⟩, ⟨t1, t2, t3⟩, u1, u2, u3⟩ := a
  refine ⟨⟨o1, o2, o3, ?_, ?_⟩, ⟨t1, t2, fun p p0 p1 => ?_⟩, u1, u2, fun r r0 r1 => ?_⟩
  · simp [s_ff, up]
  · simp [s_ff, up]
  · rw [up_f (by decide), up_f (by decide), up_f (by decide)]
    exact t3 p p0 p1
  · rw [up_f (by decide), up_f (by decide), up_f (by decide)]
    exact u3 r r0 r1
theorem RT_row {S : S9} {h : zH} {s R : Int} (a : RT S h s) (hC : RCo h s (screenAt S s)) (r0 : 0 ≤ R) (r1 : R < 8) : RT (cpyI (up (up S 27 s 0) 29 (8 * s + R) 1) s R 12) (saw (sa h (nS s + 8) R 1) (nS s + 7) (zcp (za (sa h (nS s + 8) R 1) (nS s + 4)) (za (sa h (nS s + 8) R 1) (nS s + 7)) (R * 12) (R * 12) 12)) s := by
  obtain ⟨⟨o1, o2, o3, o4, o5⟩, ⟨t1, t2, t3⟩, u1, u2, u3⟩ := a
  have cf : ∀ (f : Nat) (j : Int), f ≠ 30 → cpyI (up (up S 27 s 0) 29 (8 * s + R) 1) s R 12 f j = up (up S 27 s 0) 29 (8 * s + R) 1 f j := fun f j hf => if_neg (fun z => hf z.1)
  refine ⟨⟨o1, o2, o3, ?_, ?_⟩, ⟨t1, t2, fun p p0 p1 => ?_⟩, u1, u2, fun r r0' r1' => ?_⟩
  · rw [cf _ _ (by decide), up_f (by decide), up_f (by decide)]
    exact o4
  · rw [cf _ _ (by decide), up_f (by decide), up_f (by decide)]
    exact o5
  · have e : za (saw (sa h (nS s + 8) R 1) (nS s + 7) (zcp (za (sa h (nS s + 8) R 1) (nS s + 4)) (za (sa h (nS s + 8) R 1) (nS s + 7)) (R * 12) (R * 12) 12)) (nS s + 7) p = zcp (za (sa h (nS s + 8) R 1) (nS s + 4)) (za (sa h (nS s + 8) R 1) (nS s + 7)) (R * 12) (R * 12) 12 p := if_pos rfl
    rw [e]
    unfold zcp cpyI
    by_cases z : R * 12 ≤ p ∧ p < R * 12 + 12
    · rw [if_pos z, if_pos (by omega), show 96 * s + p - 96 * s = p by omega, show R * 12 + (p - R * 12) = p by omega, screenAt_ag (fun f h5 h6 j => by rw [up_f (by omega), up_f (by omega)])]
      exact (z3_nn (by omega)).trans (hC.2.2 p p0 p1)
    · rw [if_neg z, if_neg (by omega), up_f (by decide), up_f (by decide)]
      exact (z3_nn (by omega)).trans (t3 p p0 p1)
  · rw [cf _ _ (by decide)]
    have e : za (saw (sa h (nS s + 8) R 1) (nS s + 7) (zcp (za (sa h (nS s + 8) R 1) (nS s + 4)) (za (sa h (nS s + 8) R 1) (nS s + 7)) (R * 12) (R * 12) 12)) (nS s + 8) r = za (sa h (nS s + 8) R 1) (nS s + 8) r := if_neg (by omega)
    rw [e]
    by_cases z : r = R
    · rw [z, up_eq]
      exact z3_eq
    · rw [up_i (by omega), up_f (by decide)]
      exact (z3_ni z).trans (u3 r r0' r1')
