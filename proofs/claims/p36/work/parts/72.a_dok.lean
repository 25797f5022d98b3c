/-! a session with its keys, its colours and the clients -/
theorem RV_fr {S : S9} {h h' : zH} {s : Int} (e0 : eqAt (nS s) h h') (e2 : eqAt (nS s + 2) h h') (e15 : eqAt (nS s + 15) h h') (ew : ∀ w, hasW S s w → eqAt (nW w) h h' ∧ eqAt (nW w + 1) h h') (a : RV S h s) : RV S h' s := by
  obtain ⟨a0, a1, a2, a3, a4, a5, a6⟩ := a
  exact ⟨a0, a1, a2, a3, RSo_at e0 a4, RP_at e2 e15 a5, RWs_at ew a6⟩
theorem RW_agf {S S' : S9} {h : zH} {w : Int} (e : ∀ f, (5 ≤ f ∧ f ≤ 14) → ∀ j, S' f j = S f j) (a : RW S h w) : RW S' h w := by
  unfold RW at a ⊢
  simp only [e 5 (by decide), e 6 (by decide), e 7 (by decide), e 8 (by decide), e 9 (by decide), e 10 (by decide), e 11 (by decide), e 12 (by decide), e 13 (by decide), e 14 (by decide)]
  exact a
/-- a session read, under another state of the same windows -/
theorem RV_agf {S S' : S9} {h : zH} {s : Int} (eN : IN S') (eI : IW S') (eO : IO S') (e : ∀ f, (f = 4 ∨ f = 15 ∨ f = 16 ∨ f = 31) → ∀ j, S' f j = S f j) (ew : RWs S' h s) (a : RV S h s) : RV S' h s := by
  obtain ⟨a0, a1, a2, a3, a4, ⟨ed, cp, a5, a6⟩, a7⟩ := a
  refine ⟨a0, eN, eI, eO, ?_, ⟨ed, cp, LA_eqq (e 16 (by decide) s) (fun i _ _ => by unfold pileQ; rw [e 15 (by decide)]) a5, a6⟩, ew⟩
  unfold RSo at a4 ⊢
  rw [e 31 (by decide), e 4 (by decide)]
  exact a4
def Sx (S : S9) (h : zH) (s : Int) (ed : Nat) (cp : Int) (kn : Int → Nat) : Prop := RV S h s ∧ RKx S h s ed cp kn ∧ RCo h s (screenAt S s) ∧ ∀ c, 0 ≤ c → c < S 2 0 → RCl S h c
theorem RKx_agf {S S' : S9} {h : zH} {s : Int} {ed : Nat} {cp : Int} {kn : Int → Nat} (e : ∀ f, (17 ≤ f ∧ f ≤ 21) → ∀ j, S' f j = S f j) (a : RKx S h s ed cp kn) : RKx S' h s ed cp kn := by
  unfold RKx RKey at a ⊢
  simp only [e 17 (by decide), e 18 (by decide), e 19 (by decide), e 20 (by decide), e 21 (by decide)]
  exact a
theorem RCl_agf {S S' : S9} {h : zH} {c : Int} (e : ∀ f, 35 ≤ f → f ≤ 39 → S' f c = S f c) (a : RCl S h c) : RCl S' h c := by
  unfold RCl at a ⊢
  simp only [e 35 (by decide) (by decide), e 36 (by decide) (by decide), e 37 (by decide) (by decide), e 38 (by decide) (by decide), e 39 (by decide) (by decide)]
  exact a
/-- a client's guess ended -/
theorem Sx_cl {U V : S9} {h h' : zH} {s c : Int} {ed : Nat} {cp : Int} {kn : Int → Nat} (hJ : JJ V) (c0 : 0 ≤ c) (c1 : c < U 2 0) (e : ∀ f, f ≠ 38 → f ≠ 39 → ∀ j, V f j = U f j) (e2 : ∀ f j, j ≠ c → V f j = U f j) (hC : RCl V h' c) (hF : ∀ m, m ≠ nC c → eqAt m h h') (a : Sx U h s ed cp kn) : Sx V h' s ed cp kn := by
  obtain ⟨hV, hK, hCo, hCl⟩ := a
  obtain ⟨⟨s0, s1⟩, hN, hI, hO, hSo, hP, hWs⟩ := id hV
  have hn := hN.2.2.2.2 s s0 s1
  have hn2 := hN.2.2.1
  have hn3 := hN.2.2.2.1
  have nw : ∀ w, hasW U s w → nW w ≠ nC c ∧ nW w + 1 ≠ nC c := fun w hw => by unfold nW nC; omega
  have ns : ∀ k, k ≤ 18 → nS s + k ≠ nC c := fun k hk => by unfold nS nC; omega
  have hV2 : RV U h' s := RV_fr (hF _ (ns 0 (by decide))) (hF _ (ns 2 (by decide))) (hF _ (ns 15 (by decide))) (fun w hw => ⟨hF _ (nw w hw).1, hF _ (nw w hw).2⟩) hV
  refine ⟨RV_agf hJ.1 hJ.2.1 hJ.2.2.1 (fun f hf => e f (by omega) (by omega)) ?_ hV2, RKx_agf (fun f hf => e f (by omega) (by omega)) (RKx_at (hF _ (ns 3 (by decide))) (hF _ (ns 16 (by decide))) (hF _ (ns 17 (by decide))) (hF _ (ns 18 (by decide))) (fun m hm => hF _ (by unfold nC; omega)) hK), ?_, fun d d0 d1 => ?_⟩
  · intro w hw
    rw [hasW, e 4 (by decide) (by decide)] at hw
    exact RW_agf (fun f hf => e f (by omega) (by omega)) (hV2.2.2.2.2.2.2 w hw)
  · exact RCo_eq (fun p _ _ => screenAt_ag (fun f h5 h6 => e f (by omega) (by omega)) s p) (RCo_at (hF _ (ns 4 (by decide))) hCo)
  · rw [e 2 (by decide) (by decide)] at d1
    by_cases z : d = c
    · rw [z]
      exact hC
    · exact RCl_agf (fun f _ _ => e2 f d z) (RCl_at (hF _ (by unfold nC; omega)) (hCl d d0 d1))
/-- a key's letter put down -/
theorem RW_put {S : S9} {h : zH} {w w' v u : Int} {i : Int} (a : RW S h w') (hne : w' ≠ w) (hi : 96 * w ≤ i ∧ i < 96 * w + 96) (hb : S 7 w' * S 8 w' ≤ 96) : RW (up (up S 14 i v) 9 w u) h w' := by
  unfold RW at a ⊢
  obtain ⟨a1, a2, a3, a4, a5, a6, a7, a8, a9, a10, a11, a12, a13, a14⟩ := a
  refine ⟨a1, a2, a3, a4, a5, a6, a7, a8, a9, a10, ?_, a12, a13, fun k k0 k1 => ?_⟩
  · rw [up_i hne, up_f (by decide)]
    exact a11
  · have k1' : k < S 7 w' * S 8 w' := k1
    rw [up_f (by decide), up_i (by omega)]
    exact a14 k k0 k1'
