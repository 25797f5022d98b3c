theorem topAtN_agX {S S' : S9} (h : ∀ f, ((5 ≤ f ∧ f ≤ 8) ∨ f = 11 ∨ (14 ≤ f ∧ f ≤ 16)) → ∀ j, S' f j = S f j) (s p : Int) : ∀ n : Nat, topAtN S' s p n = topAtN S s p n
  | 0 => rfl
  | n + 1 => by
    rw [topAtN_s, topAtN_s, h 15 (by decide), h 11 (by decide), cellAt_w (fun f f5 f8 => h f (by omega) _), topAtN_agX h s p n]
theorem screenAt_agX {S S' : S9} (h : ∀ f, ((5 ≤ f ∧ f ≤ 8) ∨ f = 11 ∨ (14 ≤ f ∧ f ≤ 16)) → ∀ j, S' f j = S f j) (s p : Int) : screenAt S' s p = screenAt S s p := by
  have ht : topAt S' s p = topAt S s p := by
    unfold topAt
    rw [h 16 (by decide), topAtN_agX h]
  unfold screenAt
  rw [ht, cellAt_w (fun f f5 f8 => h f (by omega) _), h 14 (by decide)]
theorem RV_build {S : S9} {h : zH} {s : Int} (hJ : JJ S) (s0 : 0 ≤ s) (s4 : s < 4) (a : RSo S h s) (b : RP S h s) (c : RWs S h s) : RV S h s := ⟨⟨s0, s4⟩, hJ.1, hJ.2.1, hJ.2.2.1, a, b, c⟩
theorem RP_ag {S S' : S9} {h : zH} {s : Int} (e16 : S' 16 s = S 16 s) (e15 : ∀ i, 0 ≤ i → i < S 16 s → S' 15 (6 * s + i) = S 15 (6 * s + i)) (a : RP S h s) : RP S' h s := by
  obtain ⟨ed, cp, a1, a2⟩ := a
  exact ⟨ed, cp, LA_eqq e16 (fun i i0 i1 => by unfold pileQ; rw [e15 i i0 i1]) a1, a2⟩
theorem RSo_ag {S S' : S9} {h : zH} {s : Int} (e4 : S' 4 s = S 4 s) (e31 : S' 31 s = S 31 s) (a : RSo S h s) : RSo S' h s := by
  unfold RSo at a ⊢
  rw [e4, e31]
  exact a
theorem cloS_tk {S : S9} {s w p : Int} : (cloS S s w p 16 s = tkO S s p 16 s) ∧ ∀ j, cloS S s w p 15 j = tkO S s p 15 j := by
  unfold cloS
  refine ⟨by rw [tkO_16, tkO_16, up_f (by decide)], fun j => ?_⟩
  unfold tkO
  simp only [up_f (show (15 : Nat) ≠ 10 by decide), up_f (show (16 : Nat) ≠ 10 by decide)]
theorem cloS_10 {S : S9} {s w p j : Int} : cloS S s w p 10 j = if j = w then 0 else S 10 j := by
  unfold cloS
  rw [tkO_f (by decide) (by decide), up_at]
theorem raiS_16 {S : S9} {s w p : Int} : raiS S s w p 16 s = S 16 s - 1 + 1 := by
  unfold raiS
  rw [up_eq]
theorem raiS_15 {S : S9} {s w p i : Int} (hi : i ≠ S 16 s - 1) : raiS S s w p 15 (6 * s + i) = tkO S s p 15 (6 * s + i) := by
  unfold raiS
  rw [up_f (by decide), up_i (by omega)]
theorem raiS_L {S : S9} {s w p : Int} : raiS S s w p 15 (6 * s + (S 16 s - 1)) = w := by
  unfold raiS
  rw [up_f (by decide), up_eq]
/-- what lies in a pile with room for one more -/
theorem RP_room {l : Launch} (hl : l.stackTraces = false) {S : S9} {h : zH} {s : Int} (s0 : 0 ≤ s) (hn : 0 ≤ S 16 s ∧ S 16 s < 10) (a : RP S h s) : ∃ ed cp, LA h (nS s + 2) ed cp (S 16 s) (pileQ S s) ∧ GW l h (nS s + 2) ed cp (S 16 s) (pileQ S s) (nS s + 15) 10 ∧ cp ≤ 1000 ∧ (ed = 0 ∨ ed = nS s + 15) := by
  obtain ⟨ed, cp, hL, hed⟩ := a
  refine ⟨ed, cp, hL, ?_, ?_, hed.elim (fun z => Or.inl z.1) (fun z => Or.inr z.1)⟩
  · rcases hed with ⟨z1, z2⟩ | ⟨z1, z2⟩
    · subst z1
      exact GW_first hl hL _ (by omega) z2 (by omega)
    · subst z1
      subst z2
      exact GW_room (by omega)
  · rcases hed with z | z
    · rcases hL.2.2.2.2.1 with y | y <;> omega
    · omega
