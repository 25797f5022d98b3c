/-! windows: what is kept, and the program's picture -/
theorem posO_ex {S : S9} {s w : Int} (a : IO2 S) (hw : hasW S s w) (h1 : S 10 w = 1) : ∃ p, posO S s w p := by
  obtain ⟨p, p0, p1, p2⟩ := a.2 s w hw h1
  refine ⟨p, p0, p1, p2, fun j j0 j1 hj z => ?_⟩
  rcases Int.lt_or_lt_of_ne hj with y | y
  · exact a.1 s j p hw.1 hw.2.1 j0 y p1 (z.trans p2.symm)
  · exact a.1 s p j hw.1 hw.2.1 p0 y j1 (p2.trans z.symm)
theorem tkO_15 {S : S9} {s p i : Int} (p0 : 0 ≤ p) (i0 : 0 ≤ i) (i1 : i < S 16 s - 1) : tkO S s p 15 (6 * s + i) = if i < p then S 15 (6 * s + i) else S 15 (6 * s + (i + 1)) := by
  unfold tkO
  by_cases z : i < p
  · rw [if_neg (by omega), if_neg (by omega), if_pos z]
  · rw [if_pos ⟨rfl, by omega, by omega⟩, if_neg z]
    congr 1
    omega
theorem tkO_e {S : S9} {s p : Int} (p0 : 0 ≤ p) (hn : S 16 s ≤ 6) (f : Nat) (j : Int) (h : ¬ inS s f j) : tkO S s p f j = S f j := by
  unfold inS at h
  unfold tkO
  rw [if_neg (by omega), if_neg (by omega)]
/-- a window taken out: who stands where -/
theorem tkO_in {S : S9} {s p w i : Int} (hp : posO S s w p) (i0 : 0 ≤ i) (i1 : i < S 16 s - 1) : ∃ j, 0 ≤ j ∧ j < S 16 s ∧ j ≠ p ∧ tkO S s p 15 (6 * s + i) = S 15 (6 * s + j) ∧ (i < p → j = i) ∧ (¬ i < p → j = i + 1) := by
  rw [tkO_15 hp.1 i0 i1]
  by_cases z : i < p
  · exact ⟨i, i0, by omega, by omega, if_pos z, fun _ => rfl, fun y => absurd z y⟩
  · exact ⟨i + 1, by omega, by omega, by omega, if_neg z, fun y => absurd y z, fun _ => rfl⟩
def cloS (S : S9) (s w p : Int) : S9 := tkO (up S 10 w 0) s p
theorem posO_10 {S : S9} {s w p v x : Int} (a : posO S s w p) : posO (up S 10 x v) s w p := posO_up a (by decide)
theorem cloS_f {S : S9} {s w p j : Int} {f : Nat} (h : f ≠ 10 ∧ f ≠ 15 ∧ f ≠ 16) : cloS S s w p f j = S f j := by
  unfold cloS
  rw [tkO_f h.2.1 h.2.2, up_f h.1]
theorem cloS_e {S : S9} {s w p : Int} (p0 : 0 ≤ p) (hn : S 16 s ≤ 6) (hw : 6 * s ≤ w ∧ w < 6 * s + 6) (f : Nat) (j : Int) (h : ¬ inS s f j) : cloS S s w p f j = S f j := by
  unfold cloS
  rw [tkO_e p0 (by rw [up_f (by decide)]; exact hn) f j h]
  unfold inS at h
  unfold up
  rw [if_neg (by omega)]
theorem I4_close {S : S9} {B s w p : Int} (i : I4 S B) (s0 : 0 ≤ s) (s4 : s < 4) (hw : hasW S s w) (hp : posO S s w p) : I4 (cloS S s w p) B := by
  obtain ⟨⟨hN, hI, hO, hC, hK⟩, ⟨h2a, h2b⟩, hB, z1, z2, z3, z4, z5⟩ := i
  have hp0 := hp.1
  have hb := hN.2.2.2.2 s s0 s4
  have e : ∀ f, (f ≠ 10 ∧ f ≠ 15 ∧ f ≠ 16) → ∀ j, cloS S s w p f j = S f j := fun f hf j => cloS_f hf
  have e16s : cloS S s w p 16 s = S 16 s - 1 := by
    unfold cloS
    rw [tkO_16, up_f (by decide)]
  have en : ∀ t, t ≠ s → cloS S s w p 16 t = S 16 t := fun t ht => cloS_e hp.1 (by omega) (by omega) 16 t (by unfold inS; omega)
  have e10 : ∀ j, cloS S s w p 10 j = if j = w then 0 else S 10 j := fun j => by
    unfold cloS
    rw [tkO_f (by decide) (by decide), up_at]
  have e15 : ∀ k, 0 ≤ k → k < S 16 s - 1 → ∃ j, 0 ≤ j ∧ j < S 16 s ∧ j ≠ p ∧ cloS S s w p 15 (6 * s + k) = S 15 (6 * s + j) ∧ (k < p → j = k) ∧ (¬ k < p → j = k + 1) := fun k k0 k1 => by
    have z := tkO_in (S := up S 10 w 0) (posO_10 hp) k0 (by rw [up_f (by decide)]; exact k1)
    simp only [up_f (show (16 : Nat) ≠ 10 by decide), up_f (show (15 : Nat) ≠ 10 by decide)] at z
    exact z
  have en15 : ∀ t k, t ≠ s → 0 ≤ t → t < 4 → 0 ≤ k → k < 6 → cloS S s w p 15 (6 * t + k) = S 15 (6 * t + k) := fun t k ht t0 t4 k0 k6 => cloS_e hp.1 (by omega) (by omega) 15 _ (by unfold inS; omega)
  have hhw : ∀ t v, hasW (cloS S s w p) t v ↔ hasW S t v := fun t v => by
    unfold hasW
    rw [e 4 (by decide)]
  refine ⟨⟨⟨?_, ?_, ?_, ?_, fun t t0 t1 => ?_⟩, IW_ag (fun f h4 h9 => e f (by omega)) hI, fun t k t0 t1 k0 k1 => ?_, IC_ag (fun f hf => e f (by omega)) hC, fun t k t0 t1 k0 k1 => ?_⟩, ⟨fun t j k t0 t1 j0 jk k1 => ?_, fun t v hv h1 => ?_⟩, IB_ag (fun f hf => e f (by omega)) hB, ?_, fun t t1 t4 => ?_, ?_, ?_, ?_⟩
  · rw [e 1 (by decide)]; exact hN.1
  · rw [e 1 (by decide)]; exact hN.2.1
  · rw [e 2 (by decide)]; exact hN.2.2.1
  · rw [e 2 (by decide)]; exact hN.2.2.2.1
  · have := hN.2.2.2.2 t t0 t1
    have hq := hp.2.1
    have hq0 := hp.1
    rw [e 4 (by decide), e 17 (by decide)]
    by_cases z : t = s
    · rw [z, e16s]
      rw [z] at this
      omega
    · rw [en t z]
      exact this
  · by_cases z : t = s
    · rw [z, e16s] at k1
      obtain ⟨j, j0, j1, jp, ej, -⟩ := e15 k k0 k1
      have h3 := hO s j s0 s4 j0 j1
      rw [z, ej, hhw, e10, if_neg (hp.2.2.2 j j0 j1 jp)]
      exact h3
    · rw [en t z] at k1
      have hb2 := hN.2.2.2.2 t t0 t1
      have h3 := hO t k t0 t1 k0 k1
      rw [en15 t k z t0 t1 k0 (by omega), hhw, e10, if_neg (by have := h3.1; omega)]
      exact h3
  · rw [e 17 (by decide)] at k1
    have := hK t k t0 t1 k0 k1
    unfold IK1 at this ⊢
    rw [hhw, e 18 (by decide), e 20 (by decide), e 21 (by decide), e 2 (by decide), e 7 (by decide), e 8 (by decide)]
    exact this
  · by_cases z : t = s
    · rw [z, e16s] at k1
      obtain ⟨a, a0, a1, ap, ea, ea1, ea2⟩ := e15 j j0 (by omega)
      obtain ⟨b, b0, b1, bp, eb, eb1, eb2⟩ := e15 k (by omega) k1
      rw [z, ea, eb]
      exact h2a s a b s0 s4 a0 (by omega) b1
    · rw [en t z] at k1
      have hb2 := hN.2.2.2.2 t t0 t1
      rw [en15 t j z t0 t1 j0 (by omega), en15 t k z t0 t1 (by omega) (by omega)]
      exact h2a t j k t0 t1 j0 jk k1
  · rw [hhw] at hv
    rw [e10] at h1
    have hvw : v ≠ w := fun y => by
      rw [if_pos y] at h1
      exact absurd h1 (by decide)
    rw [if_neg hvw] at h1
    obtain ⟨j, j0, j1, j2⟩ := h2b t v hv h1
    by_cases z : t = s
    · rw [z] at j1 j2 ⊢
      have jp : j ≠ p := fun y => hvw (by rw [← j2, y]; exact hp.2.2.1)
      rw [e16s]
      by_cases y : j < p
      · refine ⟨j, j0, by have := hp.2.1; omega, ?_⟩
        obtain ⟨b, b0, b1, bp, eb, eb1, -⟩ := e15 j j0 (by have := hp.2.1; omega)
        rw [eb, eb1 y]
        exact j2
      · refine ⟨j - 1, by omega, by omega, ?_⟩
        obtain ⟨b, b0, b1, bp, eb, -, eb2⟩ := e15 (j - 1) (by omega) (by omega)
        rw [eb, eb2 (by omega), show j - 1 + 1 = j by omega]
        exact j2
    · have hb2 := hN.2.2.2.2 t hv.1 hv.2.1
      refine ⟨j, j0, by rw [en t z]; exact j1, ?_⟩
      rw [en15 t j z hv.1 hv.2.1 j0 (by omega)]
      exact j2
  · simp only [e 31 (by decide), e 32 (by decide), e 33 (by decide)]; exact z1
  · rw [e 1 (by decide)] at t1
    have z := z2 t t1 t4
    have hts : t ≠ s := by
      intro y
      rw [y] at z
      have := hp.2.1
      have := hp.1
      omega
    simp only [e 4 (by decide), en t hts, e 17 (by decide), e 22 (by decide), e 26 (by decide), e 28 (by decide), e 29 (by decide), e 30 (by decide), e 31 (by decide)]
    exact z
  · simp only [e 4 (by decide), e 9 (by decide), e 12 (by decide), e 13 (by decide), e 14 (by decide)]; exact z3
  · simp only [e 2 (by decide), e 37 (by decide), e 38 (by decide), e 39 (by decide), e 40 (by decide)]; exact z4
  · simp only [e 22 (by decide), e 23 (by decide)]; exact z5
def raiS (S : S9) (s w p : Int) : S9 := up (up (tkO S s p) 15 (6 * s + (S 16 s - 1)) w) 16 s (S 16 s - 1 + 1)
theorem raiS_f {S : S9} {s w p j : Int} {f : Nat} (h : f ≠ 15 ∧ f ≠ 16) : raiS S s w p f j = S f j := by
  unfold raiS
  rw [up_f h.2, up_f h.1, tkO_f h.1 h.2]
theorem raiS_e {S : S9} {s w p : Int} (p0 : 0 ≤ p) (p1 : p < S 16 s) (hn : S 16 s ≤ 6) (f : Nat) (j : Int) (h : ¬ inS s f j) : raiS S s w p f j = S f j := by
  have z := tkO_e p0 hn f j h
  unfold inS at h
  unfold raiS up
  rw [if_neg (by omega), if_neg (by omega)]
  exact z
theorem I4_raise {S : S9} {B s w p : Int} (i : I4 S B) (s0 : 0 ≤ s) (s4 : s < 4) (hw : hasW S s w) (hw1 : S 10 w = 1) (hp : posO S s w p) : I4 (raiS S s w p) B := by
  obtain ⟨⟨hN, hI, hO, hC, hK⟩, ⟨h2a, h2b⟩, hB, hz⟩ := i
  have hb := hN.2.2.2.2 s s0 s4
  have hq := hp.2.1
  have hq0 := hp.1
  have e : ∀ f, (f ≠ 15 ∧ f ≠ 16) → ∀ j, raiS S s w p f j = S f j := fun f hf j => raiS_f hf
  have e16 : ∀ t, raiS S s w p 16 t = S 16 t := fun t => by
    by_cases z : t = s
    · rw [z]
      unfold raiS
      rw [up_eq]
      omega
    · exact raiS_e hp.1 hp.2.1 (by omega) 16 t (by unfold inS; omega)
  have eL : raiS S s w p 15 (6 * s + (S 16 s - 1)) = w := by
    unfold raiS
    rw [up_f (by decide), up_eq]
  have e15 : ∀ k, 0 ≤ k → k < S 16 s - 1 → ∃ j, 0 ≤ j ∧ j < S 16 s ∧ j ≠ p ∧ raiS S s w p 15 (6 * s + k) = S 15 (6 * s + j) ∧ (k < p → j = k) ∧ (¬ k < p → j = k + 1) := fun k k0 k1 => by
    have z := tkO_in hp k0 k1
    have y : raiS S s w p 15 (6 * s + k) = tkO S s p 15 (6 * s + k) := by
      unfold raiS
      rw [up_f (by decide), up_i (by omega)]
    rw [y]
    exact z
  have en15 : ∀ t k, t ≠ s → 0 ≤ t → t < 4 → 0 ≤ k → k < 6 → raiS S s w p 15 (6 * t + k) = S 15 (6 * t + k) := fun t k ht t0 t4 k0 k6 => raiS_e hp.1 hp.2.1 (by omega) 15 _ (by unfold inS; omega)
  have hhw : ∀ t v, hasW (raiS S s w p) t v ↔ hasW S t v := fun t v => by
    unfold hasW
    rw [e 4 (by decide)]
  refine ⟨⟨⟨?_, ?_, ?_, ?_, fun t t0 t1 => ?_⟩, IW_ag (fun f h4 h9 => e f (by omega)) hI, fun t k t0 t1 k0 k1 => ?_, IC_ag (fun f hf => e f (by omega)) hC, IK_ag (fun f hf => e f (by omega)) hK⟩, ⟨fun t j k t0 t1 j0 jk k1 => ?_, fun t v hv h1 => ?_⟩, IB_ag (fun f hf => e f (by omega)) hB, ?_⟩
  · rw [e 1 (by decide)]; exact hN.1
  · rw [e 1 (by decide)]; exact hN.2.1
  · rw [e 2 (by decide)]; exact hN.2.2.1
  · rw [e 2 (by decide)]; exact hN.2.2.2.1
  · rw [e 4 (by decide), e 17 (by decide), e16]
    exact hN.2.2.2.2 t t0 t1
  · rw [e16] at k1
    rw [hhw, e 10 (by decide)]
    by_cases z : t = s
    · rw [z] at k1 ⊢
      by_cases y : k = S 16 s - 1
      · rw [y, eL]
        exact ⟨hw, hw1⟩
      · obtain ⟨j, j0, j1, jp, ej, -⟩ := e15 k k0 (by omega)
        rw [ej]
        exact hO s j s0 s4 j0 j1
    · have hb2 := hN.2.2.2.2 t t0 t1
      rw [en15 t k z t0 t1 k0 (by omega)]
      exact hO t k t0 t1 k0 k1
  · rw [e16] at k1
    by_cases z : t = s
    · rw [z] at k1 ⊢
      obtain ⟨a, a0, a1, ap, ea, ea1, ea2⟩ := e15 j j0 (by omega)
      by_cases y : k = S 16 s - 1
      · rw [ea, y, eL]
        exact hp.2.2.2 a a0 a1 ap
      · obtain ⟨b, b0, b1, bp, eb, eb1, eb2⟩ := e15 k (by omega) (by omega)
        rw [ea, eb]
        exact h2a s a b s0 s4 a0 (by omega) b1
    · have hb2 := hN.2.2.2.2 t t0 t1
      rw [en15 t j z t0 t1 j0 (by omega), en15 t k z t0 t1 (by omega) (by omega)]
      exact h2a t j k t0 t1 j0 jk k1
  · rw [hhw] at hv
    rw [e 10 (by decide)] at h1
    obtain ⟨j, j0, j1, j2⟩ := h2b t v hv h1
    rw [e16]
    by_cases z : t = s
    · rw [z] at j1 j2 ⊢
      by_cases jp : j = p
      · refine ⟨S 16 s - 1, by omega, by omega, ?_⟩
        rw [eL, ← j2, jp]
        exact hp.2.2.1.symm
      · by_cases y : j < p
        · refine ⟨j, j0, j1, ?_⟩
          obtain ⟨b, b0, b1, bp, eb, eb1, -⟩ := e15 j j0 (by omega)
          rw [eb, eb1 y]
          exact j2
        · refine ⟨j - 1, by omega, by omega, ?_⟩
          obtain ⟨b, b0, b1, bp, eb, -, eb2⟩ := e15 (j - 1) (by omega) (by omega)
          rw [eb, eb2 (by omega), show j - 1 + 1 = j by omega]
          exact j2
    · have hb2 := hN.2.2.2.2 t hv.1 hv.2.1
      refine ⟨j, j0, j1, ?_⟩
      rw [en15 t j z hv.1 hv.2.1 j0 (by omega)]
      exact j2
  · obtain ⟨z1, z2, z3, z4, z5⟩ := hz
    refine ⟨?_, ?_, ?_, ?_, ?_⟩
    · simp only [e 31 (by decide), e 32 (by decide), e 33 (by decide)]; exact z1
    · simp only [e 1 (by decide), e 4 (by decide), e16, e 17 (by decide), e 22 (by decide), e 26 (by decide), e 28 (by decide), e 29 (by decide), e 30 (by decide), e 31 (by decide)]
      exact z2
    · simp only [e 4 (by decide), e 9 (by decide), e 12 (by decide), e 13 (by decide), e 14 (by decide)]; exact z3
    · simp only [e 2 (by decide), e 37 (by decide), e 38 (by decide), e 39 (by decide), e 40 (by decide)]; exact z4
    · simp only [e 22 (by decide), e 23 (by decide)]; exact z5
/-- a window's own numbers or cells changed -/
theorem RV_win {S S' : S9} {h h' : zH} {s w : Int} (hJ : JJ S') (hw : hasW S s w) (e : ∀ f j, ¬ (f = 14 ∧ 96 * w ≤ j ∧ j < 96 * w + 96) → ¬ ((5 ≤ f ∧ f ≤ 13) ∧ j = w) → S' f j = S f j) (hn : RW S' h' w) (hf : ∀ m, m ≠ nW w → m ≠ nW w + 1 → eqAt m h h') (a : RV S h s) : RV S' h' s := by
  obtain ⟨⟨s0, s4⟩, hN, hI, hO, hSo, ⟨ed, cp, hL, hed⟩, hWs⟩ := a
  have hb := hN.2.2.2.2 s s0 s4
  have w0 := hw.2.2
  have ns : ∀ j, j ≤ 18 → eqAt (nS s + j) h h' := fun j hj => hf _ (by unfold nS nW; omega) (by unfold nS nW; omega)
  have e4 : S' 4 s = S 4 s := e 4 s (by omega) (by omega)
  refine ⟨⟨s0, s4⟩, hJ.1, hJ.2.1, hJ.2.2.1, ?_, ⟨ed, cp, LA_eqq (e 16 s (by omega) (by omega)) (fun i _ _ => by unfold pileQ; rw [e 15 _ (by omega) (by omega)]) (LA_at (ns 2 (by decide)) (fun z => ?_) hL), ?_⟩, fun v hv => ?_⟩
  · have z := RSo_at (ns 0 (by decide)) hSo
    unfold RSo at z ⊢
    rw [e4, e 31 s (by omega) (by omega)]
    exact z
  · rcases hed with y | y
    · omega
    · rw [y.1]; exact ns 15 (by decide)
  · exact hed.elim (fun y => Or.inl ⟨y.1, (ns 15 (by decide)).1.trans y.2⟩) Or.inr
  · rw [hasW, e4] at hv
    by_cases z : v = w
    · rw [z]; exact hn
    · obtain ⟨w1, w2, w3, w4, w5, w6, w7, w8, w9, w10⟩ := hI s v hv
      exact RW_ag (fun f f5 f13 => e f v (by omega) (by omega)) (fun k k0 k1 => e 14 _ (by omega) (by omega)) (area_le w5 w6 w7 w8).2 (RW_at (hf _ (by unfold nW; omega) (by unfold nW; omega)) (hf _ (by unfold nW; omega) (by unfold nW; omega)) (hWs v hv))
/-- the program behind a call on a session's windows -/
theorem RC_win {S S' : S9} {h h1 h2 : zH} {B s : Int} (hI : II S B) (hJ : JJ S') (hs : isS S s) (e : ∀ f j, ¬ inS s f j → S' f j = S f j) (e2 : ∀ f, (f < 4 ∨ 16 < f) → ∀ j, S' f j = S f j) (hV1 : RV S' h1 s) (hWn : RWn S' h1 s) (hf1 : ∀ m, (∀ j, (j = 0 ∨ j = 1 ∨ j = 2 ∨ j = 15) → m ≠ nS s + j) → (∀ w, 6 * s ≤ w → w < 6 * s + 6 → m ≠ nW w ∧ m ≠ nW w + 1) → m ≠ nS s + 4 → eqAt m h h1) (hC2 : RCo h2 s (screenAt S' s)) (hf2 : ∀ m, m ≠ nS s + 4 → eqAt m h1 h2) (hfr : ∀ w, 6 * s + S' 4 s ≤ w → w < 6 * s + 6 → zK h1 (nW w) = 0 ∧ zK h1 (nW w + 1) = 0) (a : RC S h) : RC S' h2 := by
  have hN := hI.1.1
  have s4 : s < 4 := by have := hN.2.1; omega
  have fr : ∀ m, (∀ j, (j = 0 ∨ j = 1 ∨ j = 2 ∨ j = 15) → m ≠ nS s + j) → (∀ w, 6 * s ≤ w → w < 6 * s + 6 → m ≠ nW w ∧ m ≠ nW w + 1) → m ≠ nS s + 4 → eqAt m h h2 := fun m m1 m2 m3 => eqAt_tr (hf1 m m1 m2 m3) (hf2 m m3)
  have s0 := hs.1
  refine RC_ses2 hI hJ hs e (RSes_win e2 (fun j hj => fr _ (fun k hk => by omega) (fun w w0 w1 => by unfold nS nW; omega) (by omega)) (fun m hm => fr m (fun k hk => by unfold nS; omega) (fun w w0 w1 => by unfold nW; omega) (by unfold nS; omega)) (RV_at hf2 hV1) hC2 (RWn_at (hf2 _ (by omega)) hWn) (a.2.1 s hs)) (fun m hm _ => fr m (fun j hj => (nmS_no hm).1 j (by omega)) (nmS_no hm).2 ((nmS_no hm).1 4 (by decide))) (fun w w0 w1 => ?_) a
  have hb0 : 0 ≤ S' 4 s := (hJ.1.2.2.2.2 s s0 s4).1
  have z := hfr w w0 w1
  exact ⟨(hf2 _ (by unfold nS nW; omega)).1.trans z.1, (hf2 _ (by unfold nS nW; omega)).1.trans z.2⟩
theorem b2_comm {a b : Int} : b2 (a ≠ b) = b2 (b ≠ a) := by
  by_cases z : a = b
  · rw [b2_f (by omega), b2_f (by omega)]
  · rw [b2_t z, b2_t (by omega)]
