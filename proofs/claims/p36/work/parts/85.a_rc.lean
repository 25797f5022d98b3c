/-! the whole program over S -/
/-- a session's clipboard -/
def RClp (S : S9) (h : zH) (s : Int) : Prop := zK h (nS s + 5) = 4 ∧ (S 22 s = 0 → zf h 300 (nS s + 5) = -1) ∧ (S 22 s ≠ 0 → zf h 300 (nS s + 5) = S 23 s ∧ zf h 301 (nS s + 5) = S 22 s - 1 ∧ zf h 302 (nS s + 5) = S 24 (4 * s) + 2 * S 24 (4 * s + 1) + 4 * S 24 (4 * s + 2) + 8 * S 24 (4 * s + 3))
/-- a session -/
def RSes (S : S9) (h : zH) (s : Int) : Prop := RV S h s ∧ (∃ ed cp kn, RKx S h s ed cp kn) ∧ RCo h s (screenAt S s) ∧ RWn S h s ∧ RClp S h s ∧ RT S h s ∧ (S 31 s = 1 → RR S h s) ∧ (S 31 s ≠ 1 → ∀ j, 9 ≤ j → j ≤ 14 → zK h (nS s + j) = 0)
/-- the places of the rows that are a session's -/
def inS (s : Int) (f : Nat) (j : Int) : Prop := ((f = 4 ∨ f = 16 ∨ f = 17 ∨ f = 22 ∨ f = 23 ∨ f = 26 ∨ f = 27 ∨ f = 28 ∨ f = 31 ∨ f = 32 ∨ f = 33) ∧ j = s) ∨ ((5 ≤ f ∧ f ≤ 13 ∨ f = 15) ∧ 6 * s ≤ j ∧ j < 6 * s + 6) ∨ (f = 14 ∧ 576 * s ≤ j ∧ j < 576 * s + 576) ∨ ((18 ≤ f ∧ f ≤ 21) ∧ 20 * s ≤ j ∧ j < 20 * s + 20) ∨ (f = 24 ∧ 4 * s ≤ j ∧ j < 4 * s + 4) ∨ (f = 29 ∧ 8 * s ≤ j ∧ j < 8 * s + 8) ∨ (f = 30 ∧ 96 * s ≤ j ∧ j < 96 * s + 96) ∨ (f = 34 ∧ 5760 * s ≤ j ∧ j < 5760 * s + 5760)
/-- the two states are one for the session s -/
def agS (S S' : S9) (s : Int) : Prop := ∀ f j, inS s f j → S' f j = S f j
theorem cellAt_w {S S' : S9} {w : Int} (h : ∀ f, 5 ≤ f → f ≤ 8 → S' f w = S f w) (p : Int) : cellAt S' w p = cellAt S w p := by
  unfold cellAt
  rw [h 5 (by omega) (by omega), h 6 (by omega) (by omega), h 7 (by omega) (by omega), h 8 (by omega) (by omega)]
theorem topAtN_agS {S S' : S9} {s : Int} (hN : IN S) (hO : IO S) (h0 : 0 ≤ s) (h1 : s < 4) (e : agS S S' s) (p : Int) : ∀ n : Nat, (n : Int) ≤ S 16 s → topAtN S' s p n = topAtN S s p n
  | 0, _ => rfl
  | n + 1, hn => by
    have hb := hN.2.2.2.2 s h0 h1
    have hw := (hO s n h0 h1 (by omega) (by omega)).1
    have e15 : S' 15 (6 * s + n) = S 15 (6 * s + n) := e 15 _ (by unfold inS; omega)
    rw [topAtN_s, topAtN_s, e15, topAtN_agS hN hO h0 h1 e p n (by omega), e 11 _ (by unfold inS; omega), cellAt_w (fun f f5 f8 => e f _ (by unfold inS; omega))]
theorem topAt_agS {S S' : S9} {s : Int} (hN : IN S) (hO : IO S) (h0 : 0 ≤ s) (h1 : s < 4) (e : agS S S' s) (p : Int) : topAt S' s p = topAt S s p := by
  have hb := hN.2.2.2.2 s h0 h1
  unfold topAt
  rw [e 16 s (by unfold inS; omega)]
  exact topAtN_agS hN hO h0 h1 e p _ (by omega)
theorem screenAt_agS {S S' : S9} {s : Int} (hN : IN S) (hI : IW S) (hO : IO S) (h0 : 0 ≤ s) (h1 : s < 4) (e : agS S S' s) (p : Int) : screenAt S' s p = screenAt S s p := by
  have hb := hN.2.2.2.2 s h0 h1
  have ht := topAt_in (p := p) hN hO h0 h1
  unfold screenAt
  rw [topAt_agS hN hO h0 h1 e p]
  by_cases z : topAt S s p < 0
  · rw [if_pos z, if_pos z]
  · have hw : hasW S s (topAt S s p) := by omega
    have hc := cellAt_in (p := p) (hI s _ hw)
    rw [if_neg z, if_neg z, cellAt_w (fun f f5 f8 => e f _ (by unfold inS; omega))]
    exact e 14 _ (by unfold inS; omega)
theorem itsL_agS {S S' : S9} {s : Int} (hN : IN S) (hI : IW S) (hO : IO S) (h0 : 0 ≤ s) (h1 : s < 4) (e : agS S S' s) (p : Int) : itsL S' s p = itsL S s p := by
  have hb := hN.2.2.2.2 s h0 h1
  have ht := topAt_in (p := p) hN hO h0 h1
  unfold itsL
  rw [topAt_agS hN hO h0 h1 e p, screenAt_agS hN hI hO h0 h1 e p]
  by_cases z : topAt S s p < 0
  · rw [if_neg (by omega), if_neg (by omega)]
  · rw [e 12 _ (by unfold inS; omega)]
theorem RV_agS {S S' : S9} {h : zH} {s : Int} (hN' : IN S') (hI' : IW S') (hO' : IO S') (e : agS S S' s) (a : RV S h s) : RV S' h s := by
  obtain ⟨⟨s0, s1⟩, hN, hI, hO, hSo, ⟨ed, cp, hL, hed⟩, hWs⟩ := a
  have hb := hN.2.2.2.2 s s0 s1
  have e4 : S' 4 s = S 4 s := e 4 s (by unfold inS; omega)
  have e16 : S' 16 s = S 16 s := e 16 s (by unfold inS; omega)
  have e31 : S' 31 s = S 31 s := e 31 s (by unfold inS; omega)
  refine ⟨⟨s0, s1⟩, hN', hI', hO', ?_, ⟨ed, cp, LA_eqq e16 (fun i i0 i1 => ?_) hL, hed⟩, fun w hw => ?_⟩
  · unfold RSo at hSo ⊢
    rw [e4, e31]
    exact hSo
  · unfold pileQ
    rw [e 15 _ (by unfold inS; omega)]
  · rw [hasW, e4] at hw
    have hiw := hI s w hw
    obtain ⟨w1, w2, w3, w4, w5, w6, w7, w8, w9, w10⟩ := hiw
    exact RW_ag (fun f f5 f13 => e f w (by unfold inS; omega)) (fun k k0 k1 => e 14 _ (by unfold inS; omega)) (area_le w5 w6 w7 w8).2 (hWs w hw)
theorem RR_agS {S S' : S9} {h : zH} {s : Int} (s0 : 0 ≤ s) (s1 : s < 4) (t0 : 0 ≤ S 32 s) (t1 : S 32 s ≤ 60) (e : agS S S' s) (a : RR S h s) : RR S' h s := by
  have e32 : S' 32 s = S 32 s := e 32 s (by unfold inS; omega)
  refine RRx_eq (e 33 s (by unfold inS; omega)) (fun p p0 p1 => ?_) e32 (fun t p t2 t3 p0 p1 => e 34 _ (by unfold inS; omega)) a
  unfold oldL
  rw [e32]
  by_cases z : S 32 s = 0
  · rw [if_pos z, if_pos z]
  · rw [if_neg z, if_neg z]
    exact e 34 _ (by unfold inS; omega)
theorem RSes_agS {S S' : S9} {h : zH} {s : Int} (hN' : IN S') (hI' : IW S') (hO' : IO S') (t0 : 0 ≤ S 32 s) (t1 : S 32 s ≤ 60) (e : agS S S' s) (a : RSes S h s) : RSes S' h s := by
  obtain ⟨hV, ⟨ed, cp, kn, hL, hcp, hks⟩, hC, hWn, hCp, hT, hR, hR2⟩ := a
  obtain ⟨⟨s0, s1⟩, hN, hI, hO, -⟩ := id hV
  have hb := hN.2.2.2.2 s s0 s1
  have e31 : S' 31 s = S 31 s := e 31 s (by unfold inS; omega)
  have e17 : S' 17 s = S 17 s := e 17 s (by unfold inS; omega)
  refine ⟨RV_agS hN' hI' hO' e hV, ⟨ed, cp, kn, LA_eqq e17 (fun _ _ _ => rfl) hL, hcp, fun k k0 k1 => ?_⟩, RCo_eq (fun p _ _ => screenAt_agS hN hI hO s0 s1 e p) hC, ?_, ?_, ?_, fun z => RR_agS s0 s1 t0 t1 e (hR (e31.symm.trans z)), fun z => hR2 (fun y => z (e31.trans y))⟩
  · rw [e17] at k1
    have hk := hks k k0 k1
    refine ⟨hk.1, ?_⟩
    have hk2 := hk.2
    unfold RKey at hk2 ⊢
    rw [e 18 _ (by unfold inS; omega), e 19 _ (by unfold inS; omega), e 20 _ (by unfold inS; omega), e 21 _ (by unfold inS; omega)]
    exact hk2
  · unfold RWn at hWn ⊢
    rw [e 4 s (by unfold inS; omega)]
    exact hWn
  · unfold RClp at hCp ⊢
    rw [e 22 s (by unfold inS; omega), e 23 s (by unfold inS; omega), e 24 (4 * s) (by unfold inS; omega), e 24 (4 * s + 1) (by unfold inS; omega), e 24 (4 * s + 2) (by unfold inS; omega), e 24 (4 * s + 3) (by unfold inS; omega)]
    exact hCp
  · obtain ⟨⟨b1, b2, b3, b4, b5⟩, ⟨c1, c2, c3⟩, d1, d2, d3⟩ := hT
    exact ⟨⟨b1, b2, b3, b4.trans (e 26 s (by unfold inS; omega)).symm, b5.trans (e 28 s (by unfold inS; omega)).symm⟩, ⟨c1, c2, fun p p0 p1 => (c3 p p0 p1).trans (e 30 _ (by unfold inS; omega)).symm⟩, d1, d2, fun r r0 r1 => (d3 r r0 r1).trans (e 29 _ (by unfold inS; omega)).symm⟩
theorem RClp_at {S : S9} {h h' : zH} {s : Int} (e : eqAt (nS s + 5) h h') (a : RClp S h s) : RClp S h' s := by
  obtain ⟨b1, -, b3, -⟩ := e
  unfold RClp at a ⊢
  simp only [b1, b3]
  exact a
theorem RKx_at2 {S : S9} {h h' : zH} {s : Int} {ed : Nat} {cp : Int} {kn : Int → Nat} (e3 : eqAt (nS s + 3) h h') (e4 : eqAt (nS s + 16) h h') (e5 : eqAt (nS s + 17) h h') (e6 : eqAt (nS s + 18) h h') (e : ∀ m, 10000 ≤ m → zK h m ≠ 0 → eqAt m h h') (a : RKx S h s ed cp kn) : RKx S h' s ed cp kn := by
  obtain ⟨a1, a2, a3⟩ := a
  refine ⟨LA_at e3 (fun z => ?_) a1, ?_, fun k k0 k1 => ⟨(a3 k k0 k1).1, RKey_at (e _ (a3 k k0 k1).1 (by rw [(a3 k k0 k1).2.1]; decide)) (a3 k k0 k1).2⟩⟩
  · rcases a2 with y | y | y | y
    · omega
    · rw [y.1]; exact e4
    · rw [y.1]; exact e5
    · rw [y.1]; exact e6
  · rw [e4.1, e5.1, e6.1]
    exact a2
/-- a session's names -/
def nmS (s : Int) (m : Nat) : Prop := (∃ j, j ≤ 18 ∧ m = nS s + j) ∨ (∃ w, 6 * s ≤ w ∧ w < 6 * s + 6 ∧ (m = nW w ∨ m = nW w + 1))
theorem RSes_at {S : S9} {h h' : zH} {s : Int} (e : ∀ m, nmS s m → eqAt m h h') (ek : ∀ m, 10000 ≤ m → zK h m ≠ 0 → eqAt m h h') (a : RSes S h s) : RSes S h' s := by
  obtain ⟨hV, ⟨ed, cp, kn, hK⟩, hC, hWn, hCp, hT, hR, hR2⟩ := a
  obtain ⟨⟨s0, s1⟩, hN, -⟩ := id hV
  have hb := hN.2.2.2.2 s s0 s1
  have ns : ∀ j, j ≤ 18 → eqAt (nS s + j) h h' := fun j hj => e _ (Or.inl ⟨j, hj, rfl⟩)
  refine ⟨RV_fr (ns 0 (by decide)) (ns 2 (by decide)) (ns 15 (by decide)) (fun w hw => ⟨e _ (Or.inr ⟨w, by omega, by omega, Or.inl rfl⟩), e _ (Or.inr ⟨w, by omega, by omega, Or.inr rfl⟩)⟩) hV, ⟨ed, cp, kn, RKx_at2 (ns 3 (by decide)) (ns 16 (by decide)) (ns 17 (by decide)) (ns 18 (by decide)) ek hK⟩, RCo_at (ns 4 (by decide)) hC, RWn_at (ns 1 (by decide)) hWn, RClp_at (ns 5 (by decide)) hCp, RT_at (ns 6 (by decide)) (ns 7 (by decide)) (ns 8 (by decide)) hT, fun z => RRx_at (fun j _ j1 => ns j (by omega)) (hR z), fun z j j0 j1 => (ns j (by omega)).1.trans (hR2 z j j0 j1)⟩
/-- a client -/
def RCli (S : S9) (h : zH) (c : Int) : Prop := RCl S h c ∧ RCh S h c
/-- the two states are one for the client c -/
def agC (S S' : S9) (c : Int) : Prop := (∀ f, 35 ≤ f → f ≤ 39 → S' f c = S f c) ∧ ∀ j, 0 ≤ j → j < 96 → S' 40 (96 * c + j) = S 40 (96 * c + j)
theorem RCli_ag {S S' : S9} {h : zH} {c : Int} (e : agC S S' c) (a : RCli S h c) : RCli S' h c := ⟨RCl_agf e.1 a.1, RCh_agf (e.1 35 (by decide) (by decide)) e.2 a.2⟩
theorem RCli_at {S : S9} {h h' : zH} {c : Int} (e : ∀ k, k ≤ 4 → eqAt (nC c + k) h h') (a : RCli S h c) : RCli S h' c := ⟨RCl_at (e 0 (by decide)) a.1, RCh_at (e 1 (by decide)) (e 2 (by decide)) (e 3 (by decide)) (e 4 (by decide)) a.2⟩
/-- the program's own fields and rows -/
def RTop (S : S9) (h : zH) : Prop := (zK h 2 = 10 ∧ zr h 900 2 = some 3 ∧ zr h 901 2 = some 4 ∧ zr h 902 2 = some 5 ∧ zl h 903 2 = S 3 0) ∧ (zK h 3 = 105 ∧ zN h 3 = 4 ∧ ∀ s, 0 ≤ s → s < 4 → zq h 3 s = if s < S 1 0 then some (nS s) else none) ∧ (zK h 4 = 104 ∧ zN h 4 = 6 ∧ ∀ c, 0 ≤ c → c < 6 → zq h 4 c = if c < S 2 0 then some (nC c) else none) ∧ zK h 5 = 101 ∧ zN h 5 = 48 ∧ ∀ j, 0 ≤ j → j < 48 → za h 5 j = S 25 j
theorem RTop_at {S : S9} {h h' : zH} (e : ∀ m, 2 ≤ m → m ≤ 5 → eqAt m h h') (a : RTop S h) : RTop S h' := by
  obtain ⟨b1, -, -, -, b5, -, b7, -⟩ := e 2 (by decide) (by decide)
  obtain ⟨c1, c2, -, -, -, c6, -⟩ := e 3 (by decide) (by decide)
  obtain ⟨d1, d2, -, -, -, d6, -⟩ := e 4 (by decide) (by decide)
  obtain ⟨f1, f2, -, f4, -⟩ := e 5 (by decide) (by decide)
  unfold RTop at a ⊢
  simp only [b1, b5, b7, c1, c2, c6, d1, d2, d6, f1, f2, f4]
  exact a
theorem RTop_ag {S S' : S9} {h : zH} (e : ∀ f, (f = 1 ∨ f = 2 ∨ f = 3 ∨ f = 25) → ∀ j, S' f j = S f j) (a : RTop S h) : RTop S' h := by
  unfold RTop at a ⊢
  simp only [e 1 (by decide), e 2 (by decide), e 3 (by decide), e 25 (by decide)]
  exact a
/-- names that are free -/
def RFr (S : S9) (h : zH) : Prop := (∀ s j, S 1 0 ≤ s → s < 4 → 0 ≤ s → j ≤ 18 → zK h (nS s + j) = 0) ∧ (∀ s w, 0 ≤ s → s < 4 → 6 * s + S 4 s ≤ w → w < 6 * s + 6 → zK h (nW w) = 0 ∧ zK h (nW w + 1) = 0) ∧ ∀ c k, S 2 0 ≤ c → c < 6 → 0 ≤ c → k ≤ 4 → zK h (nC c + k) = 0
def RC (S : S9) (h : zH) : Prop := RTop S h ∧ (∀ s, isS S s → RSes S h s) ∧ (∀ c, isC S c → RCli S h c) ∧ RFr S h
/-- what is zero as long as nothing was put there -/
def IZ (S : S9) : Prop := (∀ s, 0 ≤ s → s < 4 → S 31 s = 0 → S 32 s = 0 ∧ S 33 s = 0) ∧ (∀ s, S 1 0 ≤ s → s < 4 → S 4 s = 0 ∧ S 16 s = 0 ∧ S 17 s = 0 ∧ S 22 s = 0 ∧ S 26 s = 0 ∧ S 28 s = 0 ∧ S 31 s = 0 ∧ (∀ r, 8 * s ≤ r → r < 8 * s + 8 → S 29 r = 0) ∧ ∀ p, 96 * s ≤ p → p < 96 * s + 96 → S 30 p = 0) ∧ (∀ s w, 0 ≤ s → s < 4 → 6 * s + S 4 s ≤ w → w < 6 * s + 6 → S 9 w = 0 ∧ S 12 w = 0 ∧ S 13 w = 0 ∧ ∀ k, 96 * w ≤ k → k < 96 * w + 96 → S 14 k = 0) ∧ (∀ c, S 2 0 ≤ c → c < 6 → S 37 c = 0 ∧ S 38 c = 0 ∧ S 39 c = 0 ∧ ∀ p, 96 * c ≤ p → p < 96 * c + 96 → S 40 p = 0) ∧ ∀ s, 0 ≤ s → s < 4 → 0 ≤ S 22 s ∧ S 22 s ≤ 3 ∧ (S 22 s ≠ 0 → 0 ≤ S 23 s ∧ S 23 s ≤ 9999)
/-- the check's rows of bits -/
def IBt (S : S9) : Prop := ∀ f, (f = 10 ∨ f = 11 ∨ f = 12 ∨ f = 13 ∨ f = 24 ∨ f = 25 ∨ f = 26 ∨ f = 27 ∨ f = 29 ∨ f = 31) → ∀ j, S f j = 0 ∨ S f j = 1
theorem IBt_of {S : S9} {h : zH} (a : RM S h) (g : zG h) : IBt S := by
  intro f hf j
  have z := a.2.2.2 f (by omega) (by omega)
  rw [← z.2.2.2 (by omega) j]
  refine g.2.2.2.2.2.2.2 _ _ (z.2.1.trans ?_)
  unfold mK
  rw [if_pos (by omega)]
/-- all that always holds -/
def II (S : S9) (B : Int) : Prop := JJ S ∧ IO2 S ∧ IB S B ∧ IZ S ∧ IBt S
/-- the class's part changed for the session s alone -/
theorem RC_ses {S S' : S9} {h h' : zH} {B : Int} {s : Int} (hI : II S B) (hI' : JJ S') (hs : isS S s) (e1 : ∀ f, (f = 1 ∨ f = 2 ∨ f = 3 ∨ f = 25) → ∀ j, S' f j = S f j) (e2 : ∀ t, 0 ≤ t → t < 4 → t ≠ s → agS S S' t) (e3 : ∀ c, 0 ≤ c → c < 6 → agC S S' c) (h1 : RSes S' h' s) (hf : ∀ m, ¬ nmS s m → (m < 10000 ∨ zK h m ≠ 0) → eqAt m h h') (hw : ∀ w, 6 * s + S' 4 s ≤ w → w < 6 * s + 6 → zK h' (nW w) = 0 ∧ zK h' (nW w + 1) = 0) (a : RC S h) : RC S' h' := by
  obtain ⟨a1, a2, a3, a4, a5, a6⟩ := a
  have hN := hI.1.1
  have n1 := hN.2.1
  have n2 := hN.2.2.2.1
  have f1 : S' 1 0 = S 1 0 := e1 1 (by decide) 0
  have f2 : S' 2 0 = S 2 0 := e1 2 (by decide) 0
  have hs4 : s < 4 := by omega
  have nn : ∀ t m, 0 ≤ t → t < 4 → t ≠ s → nmS t m → ¬ nmS s m ∧ m < 10000 := by
    intro t m t0 t1 ts hm
    unfold nmS nS nW at *
    refine ⟨?_, ?_⟩
    · rintro (⟨j, j1, j2⟩ | ⟨w, w1, w2, w3⟩) <;> rcases hm with ⟨k, k1, k2⟩ | ⟨v, v1, v2, v3⟩ <;> omega
    · rcases hm with ⟨k, k1, k2⟩ | ⟨v, v1, v2, v3⟩ <;> omega
  have nlo : ∀ m, m < 1000 → ¬ nmS s m := by
    intro m hm
    unfold nmS nS nW
    rintro (⟨j, j1, j2⟩ | ⟨w, w1, w2, w3⟩) <;> omega
  have ncl : ∀ c k, 0 ≤ c → c < 6 → k ≤ 4 → ¬ nmS s (nC c + k) ∧ nC c + k < 10000 := by
    intro c k c0 c1 hk
    unfold nmS nS nW nC
    refine ⟨?_, by omega⟩
    rintro (⟨j, j1, j2⟩ | ⟨w, w1, w2, w3⟩) <;> omega
  refine ⟨RTop_ag e1 (RTop_at (fun m m2 m5 => hf m (nlo m (by omega)) (Or.inl (by omega))) a1), fun t ht => ?_, fun c hc => ?_, fun t j t1 t4 t0 hj => ?_, fun t w t0 t1 w0 w1 => ?_, fun c k c1 c6 c0 hk => ?_⟩
  · by_cases z : t = s
    · rw [z]; exact h1
    · have hb := hI.2.2.1.2.1 t (by omega) (by omega)
      exact RSes_agS hI'.1 hI'.2.1 hI'.2.2.1 hb.2.2.1 hb.2.2.2.1 (e2 t (by omega) (by omega) z) (RSes_at (fun m hm => hf m (nn t m (by omega) (by omega) z hm).1 (Or.inl (nn t m (by omega) (by omega) z hm).2)) (fun m m1 m2 => hf m (by unfold nmS nS nW; rintro (⟨j, j1, j2⟩ | ⟨w, w1, w2, w3⟩) <;> omega) (Or.inr m2)) (a2 t ⟨by omega, by omega⟩))
  · exact RCli_ag (e3 c (by omega) (by omega)) (RCli_at (fun k hk => hf _ (ncl c k (by omega) (by omega) hk).1 (Or.inl (ncl c k (by omega) (by omega) hk).2)) (a3 c ⟨by omega, by omega⟩))
  · have y := nn t (nS t + j) t0 t4 (by omega) (Or.inl ⟨j, hj, rfl⟩)
    exact (hf _ y.1 (Or.inl y.2)).1.trans (a4 t j (by omega) t4 t0 hj)
  · by_cases z : t = s
    · rw [z] at w0 w1
      exact hw w w0 w1
    · have e4 : S' 4 t = S 4 t := e2 t t0 t1 z 4 t (by unfold inS; omega)
      have y1 := nn t (nW w) t0 t1 z (Or.inr ⟨w, by have := hN.2.2.2.2 t t0 t1; omega, w1, Or.inl rfl⟩)
      have y2 := nn t (nW w + 1) t0 t1 z (Or.inr ⟨w, by have := hN.2.2.2.2 t t0 t1; omega, w1, Or.inr rfl⟩)
      have y := a5 t w t0 t1 (by omega) w1
      exact ⟨(hf _ y1.1 (Or.inl y1.2)).1.trans y.1, (hf _ y2.1 (Or.inl y2.2)).1.trans y.2⟩
  · have y := ncl c k c0 c6 hk
    exact (hf _ y.1 (Or.inl y.2)).1.trans (a6 c k (by omega) c6 c0 hk)
/-- .. for nothing but the class's own fields, or for no name of the class -/
theorem RC_fr {S : S9} {h h' : zH} (hf : ∀ m, 2 ≤ m → m ≤ 5 → eqAt m h h') (hf2 : ∀ m, 1000 ≤ m → (m < 10000 ∨ zK h m ≠ 0) → eqAt m h h') (hN : IN S) (a : RC S h) : RC S h' := by
  obtain ⟨a1, a2, a3, a4, a5, a6⟩ := a
  have n1 := hN.2.1
  have n2 := hN.2.2.2.1
  refine ⟨RTop_at hf a1, fun t ht => RSes_at (fun m hm => ?_) (fun m m1 m2 => hf2 m (by omega) (Or.inr m2)) (a2 t ht), fun c hc => RCli_at (fun k hk => hf2 _ (by unfold nC; omega) (Or.inl (by unfold nC; omega))) (a3 c hc), fun t j t1 t4 t0 hj => (hf2 _ (by unfold nS; omega) (Or.inl (by unfold nS; omega))).1.trans (a4 t j t1 t4 t0 hj), fun t w t0 t1 w0 w1 => ?_, fun c k c1 c6 c0 hk => (hf2 _ (by unfold nC; omega) (Or.inl (by unfold nC; omega))).1.trans (a6 c k c1 c6 c0 hk)⟩
  · unfold nmS nS nW at hm
    rcases hm with ⟨j, j1, j2⟩ | ⟨w, w1, w2, w3⟩
    · exact hf2 m (by omega) (Or.inl (by omega))
    · exact hf2 m (by omega) (Or.inl (by omega))
  · have y := a5 t w t0 t1 w0 w1
    exact ⟨(hf2 _ (by unfold nW; omega) (Or.inl (by unfold nW; omega))).1.trans y.1, (hf2 _ (by unfold nW; omega) (Or.inl (by unfold nW; omega))).1.trans y.2⟩
/-- how a public method of the class ends: xs are the names of what it throws, k as the check counts them -/
def QC (S : S9) (h : zH) (k : Int) (xs : List String) (v : zV) (S' : S9) : zO → zH → Prop := fun o h' => (∀ m, (m = 6 ∨ m = 7 ∨ (99 ≤ m ∧ m ≤ 142)) → eqAt m h h') ∧ ((k = 0 ∧ o = .inl (some v) ∧ RC S' h') ∨ (0 < k ∧ (∃ E, xs[(k - 1).toNat]? = some E ∧ o = .inr E) ∧ RC S h'))
