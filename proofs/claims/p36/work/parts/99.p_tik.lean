/-! a tick keeps what is zero so far -/
def zS1 (S S' : S9) : Prop := (∀ f j, (f = 1 ∨ f = 2 ∨ f = 4 ∨ f = 12 ∨ f = 13 ∨ f = 16 ∨ f = 22 ∨ f = 23 ∨ f = 31) → S' f j = S f j) ∧ (∀ f s, (f = 17 ∨ f = 26 ∨ f = 28) → S 1 0 ≤ s → S' f s = S f s) ∧ (∀ r, 8 * S 1 0 ≤ r → S' 29 r = S 29 r) ∧ (∀ p, 96 * S 1 0 ≤ p → S' 30 p = S 30 p) ∧ (∀ s w, 0 ≤ s → s < 4 → 6 * s + S 4 s ≤ w → w < 6 * s + 6 → S' 9 w = S 9 w ∧ ∀ k, 96 * w ≤ k → k < 96 * w + 96 → S' 14 k = S 14 k) ∧ (∀ f c, (f = 37 ∨ f = 38 ∨ f = 39) → S 2 0 ≤ c → S' f c = S f c) ∧ (∀ p, 96 * S 2 0 ≤ p → S' 40 p = S 40 p) ∧ ∀ s, S 31 s = 0 → S' 32 s = S 32 s ∧ S' 33 s = S 33 s
theorem zS1_rf {S : S9} : zS1 S S := ⟨fun _ _ _ => rfl, fun _ _ _ _ => rfl, fun _ _ => rfl, fun _ _ => rfl, fun _ _ _ _ _ _ => ⟨rfl, fun _ _ _ => rfl⟩, fun _ _ _ _ => rfl, fun _ _ => rfl, fun _ _ => ⟨rfl, rfl⟩⟩
theorem zS1_tr {S T U : S9} (a : zS1 S T) (b : zS1 T U) : zS1 S U := by
  obtain ⟨a1, a2, a3, a4, a5, a6, a7, a8⟩ := a
  obtain ⟨b1, b2, b3, b4, b5, b6, b7, b8⟩ := b
  rw [a1 1 0 (by decide)] at b2 b3 b4
  rw [a1 2 0 (by decide)] at b6 b7
  refine ⟨fun f j h => (b1 f j h).trans (a1 f j h), fun f s h hs => (b2 f s h hs).trans (a2 f s h hs), fun r hr => (b3 r hr).trans (a3 r hr), fun r hr => (b4 r hr).trans (a4 r hr), fun s w h0 h4 w0 w1 => ?_, fun f c h hc => (b6 f c h hc).trans (a6 f c h hc), fun p hp => (b7 p hp).trans (a7 p hp), fun s hs => ?_⟩
  · have y := b5 s w h0 h4 (by rw [a1 4 s (by decide)]; exact w0) w1
    have x := a5 s w h0 h4 w0 w1
    exact ⟨y.1.trans x.1, fun k k0 k1 => (y.2 k k0 k1).trans (x.2 k k0 k1)⟩
  · have y := b8 s ((a1 31 s (by decide)).trans hs)
    have x := a8 s hs
    exact ⟨y.1.trans x.1, y.2.trans x.2⟩
theorem IZ_S1 {S S' : S9} (h : zS1 S S') (a : IZ S) : IZ S' := by
  obtain ⟨a1, a2, a3, a4, a5, a6, a7, a8⟩ := h
  obtain ⟨z1, z2, z3, z4, z5⟩ := a
  refine ⟨fun s s0 s4 h31 => ?_, fun s h1 h4 => ?_, fun s w s0 s4 w0 w1 => ?_, fun c c0 c1 => ?_, fun s s0 s4 => ?_⟩
  · rw [a1 31 s (by decide)] at h31
    have y := z1 s s0 s4 h31
    have x := a8 s h31
    exact ⟨x.1.trans y.1, x.2.trans y.2⟩
  · rw [a1 1 0 (by decide)] at h1
    obtain ⟨y1, y2, y3, y4, y5, y6, y7, y8, y9⟩ := z2 s h1 h4
    exact ⟨(a1 4 s (by decide)).trans y1, (a1 16 s (by decide)).trans y2, (a2 17 s (by decide) h1).trans y3, (a1 22 s (by decide)).trans y4, (a2 26 s (by decide) h1).trans y5, (a2 28 s (by decide) h1).trans y6, (a1 31 s (by decide)).trans y7, fun r r0 r1 => (a3 r (by omega)).trans (y8 r r0 r1), fun p p0 p1 => (a4 p (by omega)).trans (y9 p p0 p1)⟩
  · rw [a1 4 s (by decide)] at w0
    obtain ⟨y1, y2, y3, y4⟩ := z3 s w s0 s4 w0 w1
    have x := a5 s w s0 s4 w0 w1
    exact ⟨x.1.trans y1, (a1 12 w (by decide)).trans y2, (a1 13 w (by decide)).trans y3, fun k k0 k1 => (x.2 k k0 k1).trans (y4 k k0 k1)⟩
  · rw [a1 2 0 (by decide)] at c0
    obtain ⟨y1, y2, y3, y4⟩ := z4 c c0 c1
    exact ⟨(a6 37 c (by decide) c0).trans y1, (a6 38 c (by decide) c0).trans y2, (a6 39 c (by decide) c0).trans y3, fun p p0 p1 => (a7 p (by omega)).trans (y4 p p0 p1)⟩
  · rw [a1 22 s (by decide), a1 23 s (by decide)]
    exact z5 s s0 s4
theorem zS1_rows {S : S9} {s : Int} (hs : isS S s) : zS1 S (rowsS S s) := by
  refine ⟨fun f j h => rowsS_f (by omega), fun f t h ht => ?_, fun r hr => rowsS_e 29 r (by unfold inS; omega), fun r hr => rowsS_e 30 r (by unfold inS; omega), fun t w _ _ _ _ => ⟨rowsS_f (by decide), fun k _ _ => rowsS_f (by decide)⟩, fun f c h _ => rowsS_f (by omega), fun p _ => rowsS_f (by decide), fun t _ => ⟨rowsS_f (by decide), rowsS_f (by decide)⟩⟩
  exact rowsS_e f t (by unfold inS; omega)
theorem zS1_rowsN {S : S9} : ∀ n : Nat, (n : Int) ≤ S 1 0 → zS1 S (rowsN S n)
  | 0, _ => zS1_rf
  | n + 1, h => by
    rw [rowsN_s]
    exact zS1_tr (zS1_rowsN n (by omega)) (zS1_rows ⟨by omega, by rw [rowsN_f (by decide)]; omega⟩)
theorem zS1_mon {S : S9} {n : Int} (h : n ≤ S 2 0) : zS1 S (monI S n) := by
  refine ⟨fun f j h => monI_f (by omega), fun f t h ht => monI_f (by omega), fun r hr => monI_f (by decide), fun r hr => monI_f (by decide), fun t w _ _ _ _ => ⟨monI_f (by decide), fun k _ _ => monI_f (by decide)⟩, fun f c hf hc => if_neg (by omega), fun p _ => monI_f (by decide), fun t _ => ⟨monI_f (by decide), monI_f (by decide)⟩⟩
theorem zS1_send {S : S9} {c : Int} (h : isC S c) : zS1 S (sendS S c) := by
  refine ⟨fun f j h => sendS_f (by omega), fun f t h ht => sendS_f (by omega), fun r hr => sendS_f (by decide), fun r hr => sendS_f (by decide), fun t w _ _ _ _ => ⟨sendS_f (by decide), fun k _ _ => sendS_f (by decide)⟩, fun f d hf hd => sendS_c ⟨fun _ => by omega, fun z => by omega⟩, fun p hp => sendS_c ⟨fun z => absurd z (by decide), fun _ => by omega⟩, fun t _ => ⟨sendS_f (by decide), sendS_f (by decide)⟩⟩
theorem zS1_line : ∀ (u : Nat) (S : S9) (left : Int), zS1 S (lineS S left u).1
  | 0, _, _ => zS1_rf
  | u + 1, S, left => by
    rw [lineS_s]
    split
    · exact zS1_rf
    · have hc := chN_in S left (S 2 0).toNat
      exact zS1_tr (zS1_send ⟨by omega, by omega⟩) (zS1_line u _ _)
theorem zS1_rec {S : S9} {s : Int} (hs : isS S s) : zS1 S (recS S s) := by
  refine ⟨fun f j h => recS_f (by omega), fun f t h ht => recS_f (by omega), fun r hr => recS_f (by decide), fun r hr => recS_f (by decide), fun t w _ _ _ _ => ⟨recS_f (by decide), fun k _ _ => recS_f (by decide)⟩, fun f d hf hd => recS_f (by omega), fun p hp => recS_f (by decide), fun t ht => ?_⟩
  unfold recS
  split
  · rename_i z
    have hne : t ≠ s := fun e => by rw [e] at ht; omega
    unfold lokI up
    simp [hne]
  · exact ⟨rfl, rfl⟩
theorem zS1_key {T : S9} {s k : Int} (hJ : JJ T) (s0 : 0 ≤ s) (s4 : s < 4) (k0 : 0 ≤ k) (k1 : k < T 17 s) : zS1 T (key1 T s k) := by
  have hk := hJ.2.2.2.2 s k s0 s4 k0 k1
  obtain ⟨⟨g1, g2, g3, g4⟩, g5, g6, g7, g8⟩ := hk
  have hW := hJ.2.1 _ _ ⟨g1, g2, g3, g4⟩
  have ha := area_le hW.2.2.2.2.1 hW.2.2.2.2.2.1 hW.2.2.2.2.2.2.1 hW.2.2.2.2.2.2.2.1
  have hc9 := hW.2.2.2.2.2.2.2.2
  have hn := hJ.1.2.2.2.2
  refine ⟨fun f j h => key1_f (by omega), fun f t h ht => key1_f (by omega), fun r hr => key1_f (by decide), fun r hr => key1_f (by decide), fun t w t0 t4 w0 w1 => ?_, fun f d hf hd => ?_, fun p hp => key1_f (by decide), fun t ht => ⟨key1_f (by decide), key1_f (by decide)⟩⟩
  · have h1 := hn t t0 t4
    have h2 := hn s s0 s4
    have hne : w ≠ T 18 (20 * s + k) := by
      by_cases y : t = s
      · rw [y] at w0; omega
      · omega
    unfold key1
    constructor
    · rw [up_f (by decide), up_f (by decide)]
      unfold keyW
      split
      · rw [up_i hne, up_f (by decide)]
      · rfl
    · intro k k0 k1
      rw [up_f (by decide), up_f (by decide)]
      unfold keyW
      split
      · rw [up_f (by decide), up_i (by omega)]
      · rfl
  · unfold key1
    rcases hf with rfl | rfl | rfl
    · rw [up_f (by decide), up_f (by decide), keyW_f (by decide)]
    · rw [up_f (by decide), up_i (by omega), keyW_f (by decide)]
    · rw [up_i (by omega), up_f (by decide), keyW_f (by decide)]
theorem zS1_keyN {S : S9} {s : Int} (hJ : JJ S) (s0 : 0 ≤ s) (s4 : s < 4) : ∀ n : Nat, (n : Int) ≤ S 17 s → zS1 S (keyN S s n)
  | 0, _ => zS1_rf
  | n + 1, h => zS1_tr (zS1_keyN hJ s0 s4 n (by omega)) (zS1_key (keyN_JJ hJ s0 s4 n (by omega)) s0 s4 (by omega) (by rw [keyN_f (by decide)]; omega))
theorem zS1_doK {S : S9} {s : Int} (hJ : JJ S) (hs : isS S s) (s4 : s < 4) : zS1 S (doK S s) := by
  have hb := hJ.1.2.2.2.2 s hs.1 s4
  have h1 := zS1_keyN hJ hs.1 s4 (S 17 s).toNat (by omega)
  refine zS1_tr h1 ?_
  have e1 : keyN S s (S 17 s).toNat 1 0 = S 1 0 := keyN_f (by decide) _
  unfold doK
  refine ⟨fun f j h => up_f (by omega), fun f t h ht => ?_, fun r hr => up_f (by decide), fun r hr => up_f (by decide), fun t w _ _ _ _ => ⟨up_f (by decide), fun k _ _ => up_f (by decide)⟩, fun f d hf hd => up_f (by omega), fun p hp => up_f (by decide), fun t ht => ⟨up_f (by decide), up_f (by decide)⟩⟩
  rw [e1] at ht
  exact up_i (by omega)
theorem zS1_ses {S : S9} {s : Int} (hJ : JJ S) (hs : isS S s) (s4 : s < 4) : zS1 S (sesS S s) := by
  unfold sesS
  split
  · exact zS1_rec hs
  · have h1 := zS1_doK hJ hs s4
    exact zS1_tr h1 (zS1_rec ⟨hs.1, by rw [h1.1 1 0 (by decide)]; exact hs.2⟩)
theorem zS1_sesN {S : S9} (hJ : JJ S) : ∀ n : Nat, (n : Int) ≤ S 1 0 → zS1 S (sesN S n)
  | 0, _ => zS1_rf
  | n + 1, h => by
    have h4 := hJ.1.2.1
    rw [sesN_s]
    exact zS1_tr (zS1_sesN hJ n (by omega)) (zS1_ses (sesN_JJ hJ n (by omega)) ⟨by omega, by rw [sesN_f (by decide)]; omega⟩ (by omega))
theorem zS1_tik {S : S9} (hJ : JJ S) : zS1 S (tik1 S) := by
  have h0 := hJ.1.1
  have h2 := hJ.1.2.2.1
  have h3 : zS1 S (befS S) := zS1_tr (zS1_rowsN _ (by omega)) (zS1_mon (by rw [rowsN_f (by decide)]; omega))
  have h4 := zS1_tr h3 (zS1_line 24 (befS S) 24)
  unfold tik1
  refine zS1_tr h4 (zS1_sesN (lineS_JJ (befS_JJ hJ) 24 24) _ ?_)
  rw [h4.1 1 0 (by decide)]
  omega
theorem zS1_tikN {S : S9} (hJ : JJ S) : ∀ n : Nat, zS1 S (tikN S n)
  | 0 => zS1_rf
  | n + 1 => by
    rw [tikN_s]
    exact zS1_tr (zS1_tikN hJ n) (zS1_tik (tikN_JJ hJ n))
theorem I4_tick {S : S9} {B t : Int} (a : I4 S B) (ht : t ≤ 20) : I4 (tikS S t) (B + 2000) := by
  obtain ⟨hJ, h2, hB, hz⟩ := a
  unfold tikS
  refine ⟨JJ_ag (fun f hf j => up_f (by unfold jF at hf; omega)) (tikN_JJ hJ _), IO2_ag (fun f hf j => up_f (by omega)) (IO2_ag (fun f hf j => tikN_f (by omega) _) h2), IB_ag (fun f hf j => up_f (by omega)) (IB_le (by omega) (tikN_IB hJ hB t.toNat)), IZ_ag (fun f hf j => up_f (by omega)) (IZ_S1 (zS1_tikN hJ _) hz)⟩
