/-! parts of a session changed alone -/
theorem RR_agf {S S' : S9} {h : zH} {s : Int} (e : ∀ f, (f = 32 ∨ f = 33 ∨ f = 34) → ∀ j, S' f j = S f j) (a : RR S h s) : RR S' h s := by
  refine RRx_eq (e 33 (by decide) s) (fun p _ _ => ?_) (e 32 (by decide) s) (fun _ _ _ _ _ _ => e 34 (by decide) _) a
  unfold oldL
  rw [e 32 (by decide), e 34 (by decide)]
theorem RClp_agf {S S' : S9} {h : zH} {s : Int} (e : ∀ f, (f = 22 ∨ f = 23 ∨ f = 24) → ∀ j, S' f j = S f j) (a : RClp S h s) : RClp S' h s := by
  unfold RClp at a ⊢
  simp only [e 22 (by decide), e 23 (by decide), e 24 (by decide)]
  exact a
theorem RWn_agf {S S' : S9} {h : zH} {s : Int} (e : S' 4 s = S 4 s) (a : RWn S h s) : RWn S' h s := by
  unfold RWn at a ⊢
  rw [e]
  exact a
theorem RVC_agf {S S' : S9} {h : zH} {s : Int} (hJ : JJ S') (e : ∀ f, ((4 ≤ f ∧ f ≤ 16) ∨ f = 31) → ∀ j, S' f j = S f j) (a : RV S h s) (b : RCo h s (screenAt S s)) : RV S' h s ∧ RCo h s (screenAt S' s) := by
  refine ⟨RV_agf hJ.1 hJ.2.1 hJ.2.2.1 (fun f hf => e f (by omega)) (fun w hw => ?_) a, RCo_eq (fun p _ _ => screenAt_ag (fun f h5 h6 => e f (by omega)) s p) b⟩
  rw [hasW, e 4 (by decide)] at hw
  exact RW_agf (fun f hf => e f (by omega)) (a.2.2.2.2.2.2 w hw)
theorem RV_nm {S : S9} {h h' : zH} {s : Int} (e : ∀ j, (j = 0 ∨ j = 2 ∨ j = 15) → eqAt (nS s + j) h h') (ew : ∀ w, 6 * s ≤ w → w < 6 * s + 6 → eqAt (nW w) h h' ∧ eqAt (nW w + 1) h h') (a : RV S h s) : RV S h' s := by
  have hb := a.2.1.2.2.2.2 s a.1.1 a.1.2
  exact RV_fr (e 0 (by decide)) (e 2 (by decide)) (e 15 (by decide)) (fun w hw => ew w hw.2.2.1 (by have := hw.2.2; omega)) a
/-- the clipboard -/
theorem RSes_clp {S S' : S9} {h h' : zH} {s : Int} (hJ : JJ S') (e : ∀ f, f ≠ 22 → f ≠ 23 → f ≠ 24 → ∀ j, S' f j = S f j) (hf : ∀ m, m ≠ nS s + 5 → eqAt m h h') (hn : RClp S' h' s) (a : RSes S h s) : RSes S' h' s := by
  obtain ⟨hV, ⟨ed, cp, kn, hK⟩, hC, hWn, hCp, hT, hR, hR2⟩ := a
  have ns : ∀ j, j ≠ 5 → eqAt (nS s + j) h h' := fun j hj => hf _ (by omega)
  have hs : s < 4 := hV.1.2
  have nw : ∀ w, 6 * s ≤ w → w < 6 * s + 6 → eqAt (nW w) h h' ∧ eqAt (nW w + 1) h h' := fun w _ _ => ⟨hf _ (by unfold nW nS; omega), hf _ (by unfold nW nS; omega)⟩
  have h31 := e 31 (by decide) (by decide) (by decide) s
  obtain ⟨g1, g2⟩ := RVC_agf hJ (fun f hf => e f (by omega) (by omega) (by omega)) (RV_nm (fun j hj => ns j (by omega)) nw hV) (RCo_at (ns 4 (by decide)) hC)
  exact ⟨g1, ⟨ed, cp, kn, RKx_agf (fun f hf => e f (by omega) (by omega) (by omega)) (RKx_at2 (ns 3 (by decide)) (ns 16 (by decide)) (ns 17 (by decide)) (ns 18 (by decide)) (fun m m1 _ => hf m (by unfold nS; omega)) hK)⟩, g2, RWn_agf (e 4 (by decide) (by decide) (by decide) s) (RWn_at (ns 1 (by decide)) hWn), hn, RT_agf (fun f hf => e f (by omega) (by omega) (by omega)) (RT_at (ns 6 (by decide)) (ns 7 (by decide)) (ns 8 (by decide)) hT), fun z => RR_agf (fun f hf => e f (by omega) (by omega) (by omega)) (RRx_at (fun j j0 j1 => ns j (by omega)) (hR (h31.symm.trans z))), fun z j j0 j1 => (ns j (by omega)).1.trans (hR2 (fun y => z (h31.trans y)) j j0 j1)⟩
/-- the transfer -/
theorem RSes_mov {S S' : S9} {h h' : zH} {s : Int} (hJ : JJ S') (e : ∀ f, (f < 26 ∨ 30 < f) → ∀ j, S' f j = S f j) (hf : ∀ m, m ≠ nS s → m ≠ nS s + 6 → m ≠ nS s + 7 → m ≠ nS s + 8 → eqAt m h h') (ho : RSo S' h' s) (hn : RT S' h' s) (a : RSes S h s) : RSes S' h' s := by
  obtain ⟨hV, ⟨ed, cp, kn, hK⟩, hC, hWn, hCp, hT, hR, hR2⟩ := a
  have ns : ∀ j, j ≠ 0 → j ≠ 6 → j ≠ 7 → j ≠ 8 → eqAt (nS s + j) h h' := fun j h0 h6 h7 h8 => hf _ (by omega) (by omega) (by omega) (by omega)
  have hs : s < 4 := hV.1.2
  have nw : ∀ w, 6 * s ≤ w → w < 6 * s + 6 → eqAt (nW w) h h' ∧ eqAt (nW w + 1) h h' := fun w _ _ => ⟨hf _ (by unfold nW nS; omega) (by unfold nW nS; omega) (by unfold nW nS; omega) (by unfold nW nS; omega), hf _ (by unfold nW nS; omega) (by unfold nW nS; omega) (by unfold nW nS; omega) (by unfold nW nS; omega)⟩
  have h31 := e 31 (by decide) s
  have hV2 : RV S' h' s := by
    obtain ⟨a0, hN, hI, hO, hSo, ⟨ed2, cp2, hL, hed⟩, hWs⟩ := hV
    have hb := hN.2.2.2.2 s a0.1 a0.2
    refine ⟨a0, hJ.1, hJ.2.1, hJ.2.2.1, ho, ⟨ed2, cp2, LA_eqq (e 16 (by decide) s) (fun i _ _ => by unfold pileQ; rw [e 15 (by decide)]) (LA_at (ns 2 (by decide) (by decide) (by decide) (by decide)) (fun z => ?_) hL), ?_⟩, fun w hw => ?_⟩
    · rcases hed with y | y
      · omega
      · rw [y.1]; exact ns 15 (by decide) (by decide) (by decide) (by decide)
    · exact hed.elim (fun y => Or.inl ⟨y.1, (ns 15 (by decide) (by decide) (by decide) (by decide)).1.trans y.2⟩) Or.inr
    · rw [hasW, e 4 (by decide)] at hw
      have z := nw w hw.2.2.1 (by have := hw.2.2; omega)
      exact RW_agf (fun f hf => e f (by omega)) (RW_at z.1 z.2 (hWs w hw))
  exact ⟨hV2, ⟨ed, cp, kn, RKx_agf (fun f hf => e f (by omega)) (RKx_at2 (ns 3 (by decide) (by decide) (by decide) (by decide)) (ns 16 (by decide) (by decide) (by decide) (by decide)) (ns 17 (by decide) (by decide) (by decide) (by decide)) (ns 18 (by decide) (by decide) (by decide) (by decide)) (fun m m1 _ => hf m (by unfold nS; omega) (by unfold nS; omega) (by unfold nS; omega) (by unfold nS; omega)) hK)⟩, RCo_eq (fun p _ _ => screenAt_ag (fun f h5 h6 => e f (by omega)) s p) (RCo_at (ns 4 (by decide) (by decide) (by decide) (by decide)) hC), RWn_agf (e 4 (by decide) s) (RWn_at (ns 1 (by decide) (by decide) (by decide) (by decide)) hWn), RClp_agf (fun f hf => e f (by omega)) (RClp_at (ns 5 (by decide) (by decide) (by decide) (by decide)) hCp), hn, fun z => RR_agf (fun f hf => e f (by omega)) (RRx_at (fun j j0 j1 => ns j (by omega) (by omega) (by omega) (by omega)) (hR (h31.symm.trans z))), fun z j j0 j1 => (ns j (by omega) (by omega) (by omega) (by omega)).1.trans (hR2 (fun y => z (h31.trans y)) j j0 j1)⟩
/-- the recording -/
theorem RSes_rec {S S' : S9} {h h' : zH} {s : Int} (hJ : JJ S') (e : ∀ f, (f < 31 ∨ 34 < f) → ∀ j, S' f j = S f j) (hf : ∀ m, m ≠ nS s → (∀ j, 9 ≤ j → j ≤ 14 → m ≠ nS s + j) → eqAt m h h') (ho : RSo S' h' s) (hn : S' 31 s = 1 → RR S' h' s) (hn2 : S' 31 s ≠ 1 → ∀ j, 9 ≤ j → j ≤ 14 → zK h' (nS s + j) = 0) (a : RSes S h s) : RSes S' h' s := by
  obtain ⟨hV, ⟨ed, cp, kn, hK⟩, hC, hWn, hCp, hT, hR, hR2⟩ := a
  have ns : ∀ j, j ≠ 0 → (j < 9 ∨ 14 < j) → eqAt (nS s + j) h h' := fun j h0 h6 => hf _ (by omega) (fun k _ _ => by omega)
  have hs : s < 4 := hV.1.2
  have nw : ∀ w, 6 * s ≤ w → w < 6 * s + 6 → eqAt (nW w) h h' ∧ eqAt (nW w + 1) h h' := fun w _ _ => ⟨hf _ (by unfold nW nS; omega) (fun k _ _ => by unfold nW nS; omega), hf _ (by unfold nW nS; omega) (fun k _ _ => by unfold nW nS; omega)⟩
  have hV2 : RV S' h' s := by
    obtain ⟨a0, hN, hI, hO, hSo, ⟨ed2, cp2, hL, hed⟩, hWs⟩ := hV
    have hb := hN.2.2.2.2 s a0.1 a0.2
    refine ⟨a0, hJ.1, hJ.2.1, hJ.2.2.1, ho, ⟨ed2, cp2, LA_eqq (e 16 (by decide) s) (fun i _ _ => by unfold pileQ; rw [e 15 (by decide)]) (LA_at (ns 2 (by decide) (by decide)) (fun z => ?_) hL), ?_⟩, fun w hw => ?_⟩
    · rcases hed with y | y
      · omega
      · rw [y.1]; exact ns 15 (by decide) (by decide)
    · exact hed.elim (fun y => Or.inl ⟨y.1, (ns 15 (by decide) (by decide)).1.trans y.2⟩) Or.inr
    · rw [hasW, e 4 (by decide)] at hw
      have z := nw w hw.2.2.1 (by have := hw.2.2; omega)
      exact RW_agf (fun f hf => e f (by omega)) (RW_at z.1 z.2 (hWs w hw))
  exact ⟨hV2, ⟨ed, cp, kn, RKx_agf (fun f hf => e f (by omega)) (RKx_at2 (ns 3 (by decide) (by decide)) (ns 16 (by decide) (by decide)) (ns 17 (by decide) (by decide)) (ns 18 (by decide) (by decide)) (fun m m1 _ => hf m (by unfold nS; omega) (fun k _ _ => by unfold nS; omega)) hK)⟩, RCo_eq (fun p _ _ => screenAt_ag (fun f h5 h6 => e f (by omega)) s p) (RCo_at (ns 4 (by decide) (by decide)) hC), RWn_agf (e 4 (by decide) s) (RWn_at (ns 1 (by decide) (by decide)) hWn), RClp_agf (fun f hf => e f (by omega)) (RClp_at (ns 5 (by decide) (by decide)) hCp), RT_agf (fun f hf => e f (by omega)) (RT_at (ns 6 (by decide) (by decide)) (ns 7 (by decide) (by decide)) (ns 8 (by decide) (by decide)) hT), hn, hn2⟩
/-- windows, pile, colours -/
theorem RSes_win {S S' : S9} {h h' : zH} {s : Int} (e : ∀ f, (f < 4 ∨ 16 < f) → ∀ j, S' f j = S f j) (hf : ∀ j, (j = 3 ∨ (5 ≤ j ∧ j ≤ 14) ∨ (16 ≤ j ∧ j ≤ 18)) → eqAt (nS s + j) h h') (hfk : ∀ m, 10000 ≤ m → eqAt m h h') (g1 : RV S' h' s) (g2 : RCo h' s (screenAt S' s)) (g3 : RWn S' h' s) (a : RSes S h s) : RSes S' h' s := by
  obtain ⟨hV, ⟨ed, cp, kn, hK⟩, hC, hWn, hCp, hT, hR, hR2⟩ := a
  have h31 := e 31 (by decide) s
  exact ⟨g1, ⟨ed, cp, kn, RKx_agf (fun f hf => e f (by omega)) (RKx_at2 (hf 3 (by decide)) (hf 16 (by decide)) (hf 17 (by decide)) (hf 18 (by decide)) (fun m m1 _ => hfk m m1) hK)⟩, g2, g3, RClp_agf (fun f hf => e f (by omega)) (RClp_at (hf 5 (by decide)) hCp), RT_agf (fun f hf => e f (by omega)) (RT_at (hf 6 (by decide)) (hf 7 (by decide)) (hf 8 (by decide)) hT), fun z => RR_agf (fun f hf => e f (by omega)) (RRx_at (fun j j0 j1 => hf j (by omega)) (hR (h31.symm.trans z))), fun z j j0 j1 => (hf j (by omega)).1.trans (hR2 (fun y => z (h31.trans y)) j j0 j1)⟩
/-- keys -/
theorem RSes_key {S S' : S9} {h h' : zH} {s : Int} (hJ : JJ S') (e : ∀ f, (f < 17 ∨ 21 < f) → ∀ j, S' f j = S f j) (hf : ∀ m, m ≠ nS s + 3 → m ≠ nS s + 16 → m ≠ nS s + 17 → m ≠ nS s + 18 → m < 10000 → eqAt m h h') (hn : ∃ ed cp kn, RKx S' h' s ed cp kn) (a : RSes S h s) : RSes S' h' s := by
  obtain ⟨hV, -, hC, hWn, hCp, hT, hR, hR2⟩ := a
  have hs : s < 4 := hV.1.2
  have ns : ∀ j, j ≠ 3 → j ≤ 15 → eqAt (nS s + j) h h' := fun j h3 h15 => hf _ (by omega) (by omega) (by omega) (by omega) (by unfold nS; omega)
  have nw : ∀ w, 6 * s ≤ w → w < 6 * s + 6 → eqAt (nW w) h h' ∧ eqAt (nW w + 1) h h' := fun w _ _ => ⟨hf _ (by unfold nW nS; omega) (by unfold nW nS; omega) (by unfold nW nS; omega) (by unfold nW nS; omega) (by unfold nW; omega), hf _ (by unfold nW nS; omega) (by unfold nW nS; omega) (by unfold nW nS; omega) (by unfold nW nS; omega) (by unfold nW; omega)⟩
  have h31 := e 31 (by decide) s
  obtain ⟨g1, g2⟩ := RVC_agf hJ (fun f hf => e f (by omega)) (RV_nm (fun j hj => ns j (by omega) (by omega)) nw hV) (RCo_at (ns 4 (by decide) (by decide)) hC)
  exact ⟨g1, hn, g2, RWn_agf (e 4 (by decide) s) (RWn_at (ns 1 (by decide) (by decide)) hWn), RClp_agf (fun f hf => e f (by omega)) (RClp_at (ns 5 (by decide) (by decide)) hCp), RT_agf (fun f hf => e f (by omega)) (RT_at (ns 6 (by decide) (by decide)) (ns 7 (by decide) (by decide)) (ns 8 (by decide) (by decide)) hT), fun z => RR_agf (fun f hf => e f (by omega)) (RRx_at (fun j j0 j1 => ns j (by omega) (by omega)) (hR (h31.symm.trans z))), fun z j j0 j1 => (ns j (by omega) (by omega)).1.trans (hR2 (fun y => z (h31.trans y)) j j0 j1)⟩
theorem inS_ne {s t : Int} {f : Nat} {j : Int} (h : inS t f j) (z : t ≠ s) : ¬ inS s f j := by
  unfold inS at h ⊢
  omega
/-- the class's part changed for one session -/
theorem RC_ses2 {S S' : S9} {h h' : zH} {B : Int} {s : Int} (hI : II S B) (hI' : JJ S') (hs : isS S s) (e : ∀ f j, ¬ inS s f j → S' f j = S f j) (h1 : RSes S' h' s) (hf : ∀ m, ¬ nmS s m → (m < 10000 ∨ zK h m ≠ 0) → eqAt m h h') (hw : ∀ w, 6 * s + S' 4 s ≤ w → w < 6 * s + 6 → zK h' (nW w) = 0 ∧ zK h' (nW w + 1) = 0) (a : RC S h) : RC S' h' :=
  RC_ses hI hI' hs (fun f hf j => e f j (by unfold inS; omega)) (fun t t0 t1 z f j hj => e f j (inS_ne hj z)) (fun c c0 c1 => ⟨fun f f5 f9 => e f c (by unfold inS; omega), fun j j0 j1 => e 40 _ (by unfold inS; omega)⟩) h1 hf hw a
/-- names of a session, ruled out -/
theorem nmS_no {s : Int} {m : Nat} (hm : ¬ nmS s m) : (∀ j, j ≤ 18 → m ≠ nS s + j) ∧ ∀ w, 6 * s ≤ w → w < 6 * s + 6 → m ≠ nW w ∧ m ≠ nW w + 1 :=
  ⟨fun j hj z => hm (Or.inl ⟨j, hj, z⟩), fun w w0 w1 => ⟨fun z => hm (Or.inr ⟨w, w0, w1, Or.inl z⟩), fun z => hm (Or.inr ⟨w, w0, w1, Or.inr z⟩)⟩⟩
theorem nmS_lo {s : Int} {m : Nat} (s0 : 0 ≤ s) (s4 : s < 4) (h : m < 1000) : ¬ nmS s m := by
  unfold nmS nS nW
  rintro (⟨j, j1, j2⟩ | ⟨w, w1, w2, w3⟩) <;> omega
/-- the windows that are not opened stay free -/
theorem RC_freeW {S : S9} {h : zH} {s : Int} (a : RC S h) (s0 : 0 ≤ s) (s4 : s < 4) : ∀ w, 6 * s + S 4 s ≤ w → w < 6 * s + 6 → zK h (nW w) = 0 ∧ zK h (nW w + 1) = 0 := fun w w0 w1 => a.2.2.2.2.1 s w s0 s4 w0 w1
/-- a right written -/
theorem RC_right {S : S9} {h : zH} {i v : Int} (hN : IN S) (a : RC S h) (hJ : JJ (up S 25 i v)) (hB : ∀ s, isS S s → 0 ≤ S 32 s ∧ S 32 s ≤ 60) : RC (up S 25 i v) (sa h 5 i v) := by
  obtain ⟨⟨a0, a01, a02, v1, v2, v3⟩, a2, a3, a4, a5, a6⟩ := a
  have n1 := hN.2.1
  have n2 := hN.2.2.2.1
  have e : ∀ f, f ≠ 25 → ∀ j, up S 25 i v f j = S f j := fun f hf j => up_f hf
  have fr : ∀ m, m ≠ 5 → eqAt m h (sa h 5 i v) := fun m hm => eqAt_sa hm
  refine ⟨⟨?_, ?_, ?_, v1, v2, fun j j0 j1 => ?_⟩, fun s hs => ?_, fun c hc => ?_, ?_, ?_, ?_⟩
  · rw [e 3 (by decide)]; exact a0
  · rw [e 1 (by decide)]; exact a01
  · rw [e 2 (by decide)]; exact a02
  · by_cases z : j = i
    · rw [z, up_eq]; exact z3_eq
    · rw [up_i z]; exact (z3_ni z).trans (v3 j j0 j1)
  · rw [isS, e 1 (by decide)] at hs
    refine RSes_agS hJ.1 hJ.2.1 hJ.2.2.1 (hB s hs).1 (hB s hs).2 (fun f j hj => e f (by unfold inS at hj; omega) j) (RSes_at (fun m hm => fr m (by unfold nmS nS nW at hm; rcases hm with ⟨j, j1, j2⟩ | ⟨w, w1, w2, w3⟩ <;> omega)) (fun m m1 _ => fr m (by omega)) (a2 s hs))
  · rw [isC, e 2 (by decide)] at hc
    exact RCli_ag ⟨fun f h5 h9 => e f (by omega) c, fun j _ _ => e 40 (by decide) _⟩ (RCli_at (fun k hk => fr _ (by unfold nC; omega)) (a3 c hc))
  · rw [e 1 (by decide)]; exact a4
  · simp only [e 4 (by decide)]; exact a5
  · rw [e 2 (by decide)]; exact a6
/-- a client's own number written -/
theorem RC_cli {S S' : S9} {h h' : zH} {B c : Int} (hI : II S B) (hc : isC S c) (e : ∀ f j, ((35 ≤ f ∧ f ≤ 39) → j ≠ c) → (f = 40 → j < 96 * c ∨ 96 * c + 96 ≤ j) → S' f j = S f j) (h1 : RCli S' h' c) (hf : ∀ m, (∀ k, k ≤ 4 → m ≠ nC c + k) → eqAt m h h') (hJ : JJ S') (a : RC S h) : RC S' h' := by
  obtain ⟨a1, a2, a3, a4, a5, a6⟩ := a
  have hN := hI.1.1
  have n1 := hN.2.1
  have n2 := hN.2.2.2.1
  have e9 : ∀ f, (f < 35 ∨ 40 < f) → ∀ j, S' f j = S f j := fun f hf j => e f j (by omega) (by omega)
  refine ⟨RTop_ag (fun f hf => e9 f (by omega)) (RTop_at (fun m m2 m5 => hf m (fun k _ => by unfold nC; omega)) a1), fun s hs => ?_, fun d hd => ?_, ?_, ?_, ?_⟩
  · rw [isS, e9 1 (by decide)] at hs
    have hb := hI.2.2.1.2.1 s hs.1 (by omega)
    exact RSes_agS hJ.1 hJ.2.1 hJ.2.2.1 hb.2.2.1 hb.2.2.2.1 (fun f j hj => e9 f (by unfold inS at hj; omega) j) (RSes_at (fun m hm => hf m (fun k hk => by unfold nmS nS nW at hm; unfold nC; rcases hm with ⟨j, j1, j2⟩ | ⟨w, w1, w2, w3⟩ <;> omega)) (fun m m1 _ => hf m (fun k hk => by unfold nC; omega)) (a2 s hs))
  · rw [isC, e9 2 (by decide)] at hd
    by_cases z : d = c
    · rw [z]; exact h1
    · exact RCli_ag ⟨fun f h5 h9 => e f d (fun _ => z) (fun y => by omega), fun j j0 j1 => e 40 _ (fun y => by omega) (fun _ => by omega)⟩ (RCli_at (fun k hk => hf _ (fun k2 hk2 => by unfold nC; omega)) (a3 d hd))
  · rw [e9 1 (by decide)]
    exact fun t j t1 t4 t0 hj => (hf _ (fun k hk => by unfold nS nC; omega)).1.trans (a4 t j t1 t4 t0 hj)
  · simp only [e9 4 (by decide)]
    exact fun t w t0 t1 w0 w1 => by
      have y := a5 t w t0 t1 w0 w1
      have yb := hN.2.2.2.2 t t0 t1
      exact ⟨(hf _ (fun k hk => by unfold nW nC; omega)).1.trans y.1, (hf _ (fun k hk => by unfold nW nC; omega)).1.trans y.2⟩
  · rw [e9 2 (by decide)]
    exact fun d k d1 d6 d0 hk => (hf _ (fun k2 hk2 => by unfold nC; omega)).1.trans (a6 d k d1 d6 d0 hk)
