theorem joinS_f {S : S9} {s b j : Int} {f : Nat} (h : f ≠ 2 ∧ f ≠ 35 ∧ f ≠ 36) : joinS S s b f j = S f j := by
  unfold joinS
  rw [up_f h.1, up_f h.2.2, up_f h.2.1]
theorem joinS_c {S : S9} {s b c : Int} {f : Nat} (h : c ≠ S 2 0) (hf : f ≠ 2) : joinS S s b f c = S f c := by
  unfold joinS
  rw [up_f hf, up_i h, up_i h]
theorem joinS_2 {S : S9} {s b : Int} : joinS S s b 2 0 = S 2 0 + 1 := up_eq
theorem joinS_35 {S : S9} {s b : Int} : joinS S s b 35 (S 2 0) = s := by
  unfold joinS
  rw [up_f (by decide), up_f (by decide), up_eq]
theorem joinS_36 {S : S9} {s b : Int} : joinS S s b 36 (S 2 0) = b := by
  unfold joinS
  rw [up_f (by decide), up_eq]
theorem I4_join {S : S9} {B s b : Int} (i : I4 S B) (hs : isS S s) (hc : S 2 0 < 6) (hb : 0 ≤ b ∧ b ≤ 9) : I4 (joinS S s b) B := by
  obtain ⟨⟨hN, hI, hO, hC, hK⟩, h2, ⟨b1, b2, b3⟩, z1, z2, z3, z4, z5⟩ := i
  have e : ∀ f, (f ≠ 2 ∧ f ≠ 35 ∧ f ≠ 36) → ∀ j, joinS S s b f j = S f j := fun f hf j => joinS_f hf
  have hB : 0 ≤ B := by have := b2 0 (by decide) (by decide); omega
  have z4n := z4 (S 2 0) (Int.le_refl _) hc
  refine ⟨⟨?_, IW_ag (fun f h4 h9 => e f (by omega)) hI, IO_ag (fun f hf => e f (by omega)) hO, fun c c0 c1 => ?_, fun t k t0 t1 k0 k1 => ?_⟩, IO2_ag (fun f hf => e f (by omega)) h2, ⟨fun c c0 c1 => ?_, fun t t0 t1 => ?_, fun c c0 c1 => ?_⟩, ?_, ?_, ?_, fun c c1 c6 => ?_, ?_⟩
  · obtain ⟨n1, n2, n3, n4, n5⟩ := hN
    unfold IN
    simp only [joinS_2, e 1 (by decide), e 4 (by decide), e 16 (by decide), e 17 (by decide)]
    exact ⟨n1, n2, by omega, by omega, n5⟩
  · rw [joinS_2] at c1
    rw [e 1 (by decide)]
    by_cases y : c = S 2 0
    · rw [y, joinS_35]
      exact hs
    · rw [joinS_c y (by decide)]
      exact hC c c0 (by omega)
  · rw [e 17 (by decide)] at k1
    have := hK t k t0 t1 k0 k1
    unfold IK1 hasW at this ⊢
    rw [joinS_2, e 4 (by decide), e 7 (by decide), e 8 (by decide), e 18 (by decide), e 20 (by decide), e 21 (by decide)]
    exact ⟨this.1, this.2.1, this.2.2.1, this.2.2.2.1, by have := this.2.2.2.2; omega⟩
  · rw [joinS_2] at c1
    rw [e 38 (by decide), e 39 (by decide)]
    by_cases y : c = S 2 0
    · rw [y, z4n.2.1, z4n.2.2.1]
      omega
    · exact b1 c c0 (by omega)
  · rw [e 28 (by decide), e 32 (by decide), e 33 (by decide)]
    exact b2 t t0 t1
  · rw [joinS_2] at c1
    by_cases y : c = S 2 0
    · rw [y, joinS_36, e 37 (by decide), z4n.1]
      omega
    · rw [joinS_c y (by decide), joinS_c y (by decide)]
      exact b3 c c0 (by omega)
  · simp only [e 31 (by decide), e 32 (by decide), e 33 (by decide)]; exact z1
  · simp only [e 1 (by decide), e 4 (by decide), e 16 (by decide), e 17 (by decide), e 22 (by decide), e 26 (by decide), e 28 (by decide), e 29 (by decide), e 30 (by decide), e 31 (by decide)]; exact z2
  · simp only [e 4 (by decide), e 9 (by decide), e 12 (by decide), e 13 (by decide), e 14 (by decide)]; exact z3
  · rw [joinS_2] at c1
    simp only [e 37 (by decide), e 38 (by decide), e 39 (by decide), e 40 (by decide)]
    exact z4 c (by omega) c6
  · simp only [e 22 (by decide), e 23 (by decide)]; exact z5
/-- the program behind a client's joining -/
theorem RC_join {S : S9} {h h8 : zH} {B s b : Int} (hI : II S B) (hs : isS S s) (hc : S 2 0 < 6) (hJ : JJ (joinS S s b)) (h1 : RCl (joinS S s b) h8 (S 2 0)) (h2 : RCh (joinS S s b) h8 (S 2 0)) (hf : ∀ m, (∀ k, k ≤ 4 → m ≠ nC (S 2 0) + k) → eqAt m h h8) (a : RC S h) : RC (joinS S s b) (sq h8 4 (S 2 0) (some (nC (S 2 0)))) := by
  obtain ⟨⟨a1, a11, a12, a13⟩, a2, a3, a4, a5, a6⟩ := a
  have hN := hI.1.1
  have n1 := hN.2.1
  have n2 := hN.2.2.2.1
  have n3 := hN.2.2.1
  have e : ∀ f, (f ≠ 2 ∧ f ≠ 35 ∧ f ≠ 36) → ∀ j, joinS S s b f j = S f j := fun f hf j => joinS_f hf
  have fr : ∀ m, m ≠ 4 → (∀ k, k ≤ 4 → m ≠ nC (S 2 0) + k) → eqAt m h (sq h8 4 (S 2 0) (some (nC (S 2 0)))) := fun m m4 mk => eqAt_tr (hf m mk) (eqAt_sq m4)
  have lo : ∀ m, m < 1000 → ∀ k, k ≤ 4 → m ≠ nC (S 2 0) + k := fun m hm k hk => by unfold nC; omega
  refine ⟨⟨?_, ?_, ?_, ?_⟩, fun t ht => ?_, fun c hcc => ?_, ?_, ?_, ?_⟩
  · rw [e 3 (by decide)]
    have y := fr 2 (by decide) (lo 2 (by decide))
    obtain ⟨b1, -, -, -, b5, -, b7, -⟩ := y
    simp only [b1, b5, b7]
    exact a1
  · have y := fr 3 (by decide) (lo 3 (by decide))
    obtain ⟨b1, b2, -, -, -, b6, -⟩ := y
    simp only [b1, b2, b6, e 1 (by decide)]
    exact a11
  · have y := hf 4 (lo 4 (by decide))
    obtain ⟨b1, b2, -, -, -, b6, -⟩ := y
    refine ⟨b1.trans a12.1, b2.trans a12.2.1, fun c c0 c6 => ?_⟩
    rw [joinS_2]
    by_cases z : c = S 2 0
    · rw [z, if_pos (by omega)]
      exact z3_eq
    · refine (z3_ni z).trans ((b6 c).trans ((a12.2.2 c c0 c6).trans ?_))
      by_cases y : c < S 2 0
      · rw [if_pos y, if_pos (by omega)]
      · rw [if_neg y, if_neg (by omega)]
  · have y := fr 5 (by decide) (lo 5 (by decide))
    obtain ⟨b1, b2, -, b4, -⟩ := y
    simp only [b1, b2, b4, e 25 (by decide)]
    exact a13
  · rw [isS, e 1 (by decide)] at ht
    have hb := hI.2.2.1.2.1 t ht.1 (by omega)
    exact RSes_agS hJ.1 hJ.2.1 hJ.2.2.1 hb.2.2.1 hb.2.2.2.1 (fun f j hj => e f (by unfold inS at hj; omega) j) (RSes_at (fun m hm => fr m (by unfold nmS nS nW at hm; rcases hm with ⟨j, j1, j2⟩ | ⟨w, w1, w2, w3⟩ <;> omega) (fun k hk => by unfold nmS nS nW at hm; unfold nC; rcases hm with ⟨j, j1, j2⟩ | ⟨w, w1, w2, w3⟩ <;> omega)) (fun m m1 _ => fr m (by omega) (fun k hk => by unfold nC; omega)) (a2 t ht))
  · rw [isC, joinS_2] at hcc
    by_cases z : c = S 2 0
    · rw [z]
      exact RCli_at (fun k hk => eqAt_sq (by unfold nC; omega)) ⟨h1, h2⟩
    · exact RCli_ag ⟨fun f h5 h9 => joinS_c z (by omega), fun j _ _ => e 40 (by decide) _⟩ (RCli_at (fun k hk => fr _ (by unfold nC; omega) (fun k2 hk2 => by unfold nC; omega)) (a3 c ⟨hcc.1, by omega⟩))
  · rw [e 1 (by decide)]
    exact fun t j t1 t4 t0 hj => (fr _ (by unfold nS; omega) (fun k hk => by unfold nS nC; omega)).1.trans (a4 t j t1 t4 t0 hj)
  · simp only [e 4 (by decide)]
    exact fun t w t0 t1 w0 w1 => by
      have y := a5 t w t0 t1 w0 w1
      have yb := hN.2.2.2.2 t t0 t1
      exact ⟨(fr _ (by unfold nW; omega) (fun k hk => by unfold nW nC; omega)).1.trans y.1, (fr _ (by unfold nW; omega) (fun k hk => by unfold nW nC; omega)).1.trans y.2⟩
  · rw [joinS_2]
    exact fun d k d1 d6 d0 hk => (fr _ (by unfold nC; omega) (fun k2 hk2 => by unfold nC; omega)).1.trans (a6 d k (by omega) d6 d0 hk)
/-- a session just made, under S -/
theorem RSes_new {S : S9} {h : zH} {s : Int} (s0 : 0 ≤ s) (s4 : s < 4) (hJ : JJ S) (hz4 : S 4 s = 0) (hz16 : S 16 s = 0) (hz17 : S 17 s = 0) (hz22 : S 22 s = 0) (hz26 : S 26 s = 0) (hz28 : S 28 s = 0) (hz31 : S 31 s = 0) (hz29 : ∀ r, 8 * s ≤ r → r < 8 * s + 8 → S 29 r = 0) (hz30 : ∀ p, 96 * s ≤ p → p < 96 * s + 96 → S 30 p = 0) (hk : ∀ j, 9 ≤ j → j ≤ 18 → zK h (nS s + j) = 0) (a : RS0 h s) : RSes S h s := by
  obtain ⟨⟨g1, g2, g3, g4, g5, g6, g7, g8, g9, g10⟩, ⟨w1, w2⟩, ⟨l1, l2, l3⟩, ⟨k1, k2, k3⟩, ⟨c1, c2, c3⟩, ⟨d1, d2⟩, ⟨t1, t2, t3, t4, t5⟩, ⟨u1, u2, u3⟩, v1, v2, v3⟩ := a
  have hsc : ∀ p, screenAt S s p = 0 := fun p => by
    have ht : topAt S s p = -1 := by
      unfold topAt
      rw [hz16]
      rfl
    unfold screenAt
    rw [ht]
    rfl
  refine ⟨RV_build hJ s0 s4 ?_ ⟨0, 0, ?_, Or.inl ⟨rfl, hk 15 (by decide) (by decide)⟩⟩ (fun w hw => ?_), ⟨0, 0, fun _ => 0, ?_, Or.inl ⟨rfl, hk 16 (by decide) (by decide), hk 17 (by decide) (by decide), hk 18 (by decide) (by decide)⟩, fun k k0 k9 => ?_⟩, ⟨c1, c2, fun p _ _ => (c3 p).trans (hsc p).symm⟩, ⟨w1, w2, fun j j0 j1 => ?_⟩, ⟨d1, fun _ => d2, fun z => absurd hz22 z⟩, ?_, fun z => ?_, fun _ j j9 j14 => hk j j9 (by omega)⟩
  · refine ⟨g1, g2, g3, g4, g5, g6, g7, ?_, ?_⟩
    · rw [hz31, if_neg (by decide)]; exact g8
    · rw [hz4]; exact g9
  · refine ⟨l1, l2, l3.trans hz16.symm, ⟨by omega, by omega⟩, Or.inl ⟨rfl, rfl⟩, fun i i0 i1 => ?_⟩
    rw [hz16] at i1
    omega
  · rw [hasW, hz4] at hw
    omega
  · refine ⟨k1, k2, k3.trans hz17.symm, ⟨by omega, by omega⟩, Or.inl ⟨rfl, rfl⟩, fun i i0 i1 => ?_⟩
    rw [hz17] at i1
    omega
  · rw [hz17] at k9
    omega
  · rw [hz4] at j1
    omega
  · exact ⟨⟨t1, t2, t3, t4.trans hz26.symm, t5.trans hz28.symm⟩, ⟨u1, u2, fun p p0 p1 => (u3 p).trans (hz30 _ (by omega) (by omega)).symm⟩, v1, v2, fun r r0 r1 => (v3 r).trans (hz29 _ (by omega) (by omega)).symm⟩
  · rw [hz31] at z
    exact absurd z (by decide)
theorem RC_openSession {S : S9} {h h8 : zH} {B : Int} (hI : II S B) (hs : S 1 0 < 4) (hJ : JJ (up S 1 0 (S 1 0 + 1))) (h1 : RS0 h8 (S 1 0)) (hf : ∀ m, (∀ j, j ≤ 8 → m ≠ nS (S 1 0) + j) → eqAt m h h8) (a : RC S h) : RC (up S 1 0 (S 1 0 + 1)) (sq h8 3 (S 1 0) (some (nS (S 1 0)))) := by
  obtain ⟨⟨a1, a11, a12, a13⟩, a2, a3, a4, a5, a6⟩ := a
  have hN := hI.1.1
  have n0 := hN.1
  have n1 := hN.2.1
  have n2 := hN.2.2.2.1
  have n3 := hN.2.2.1
  have e : ∀ f, f ≠ 1 → ∀ j, up S 1 0 (S 1 0 + 1) f j = S f j := fun f hf j => up_f hf
  have e1 : up S 1 0 (S 1 0 + 1) 1 0 = S 1 0 + 1 := up_eq
  have fr : ∀ m, m ≠ 3 → (∀ j, j ≤ 8 → m ≠ nS (S 1 0) + j) → eqAt m h (sq h8 3 (S 1 0) (some (nS (S 1 0)))) := fun m m4 mk => eqAt_tr (hf m mk) (eqAt_sq m4)
  have lo : ∀ m, m < 1000 → ∀ j, j ≤ 8 → m ≠ nS (S 1 0) + j := fun m hm k hk => by unfold nS; omega
  have zz := hI.2.2.2.1.2.1 (S 1 0) (Int.le_refl _) hs
  refine ⟨⟨?_, ?_, ?_, ?_⟩, fun t ht => ?_, fun c hcc => ?_, ?_, ?_, ?_⟩
  · rw [e 3 (by decide)]
    have y := fr 2 (by decide) (lo 2 (by decide))
    obtain ⟨b1, -, -, -, b5, -, b7, -⟩ := y
    simp only [b1, b5, b7]
    exact a1
  · have y := hf 3 (lo 3 (by decide))
    obtain ⟨b1, b2, -, -, -, b6, -⟩ := y
    refine ⟨b1.trans a11.1, b2.trans a11.2.1, fun c c0 c6 => ?_⟩
    rw [e1]
    by_cases z : c = S 1 0
    · rw [z, if_pos (by omega)]
      exact z3_eq
    · refine (z3_ni z).trans ((b6 c).trans ((a11.2.2 c c0 c6).trans ?_))
      by_cases y : c < S 1 0
      · rw [if_pos y, if_pos (by omega)]
      · rw [if_neg y, if_neg (by omega)]
  · have y := fr 4 (by decide) (lo 4 (by decide))
    obtain ⟨b1, b2, -, -, -, b6, -⟩ := y
    simp only [b1, b2, b6, e 2 (by decide)]
    exact a12
  · have y := fr 5 (by decide) (lo 5 (by decide))
    obtain ⟨b1, b2, -, b4, -⟩ := y
    simp only [b1, b2, b4, e 25 (by decide)]
    exact a13
  · rw [isS, e1] at ht
    by_cases z : t = S 1 0
    · rw [z]
      have hn := RSes_new (S := up S 1 0 (S 1 0 + 1)) (h := h8) n0 hs hJ (by rw [e 4 (by decide)]; exact zz.1) (by rw [e 16 (by decide)]; exact zz.2.1) (by rw [e 17 (by decide)]; exact zz.2.2.1) (by rw [e 22 (by decide)]; exact zz.2.2.2.1) (by rw [e 26 (by decide)]; exact zz.2.2.2.2.1) (by rw [e 28 (by decide)]; exact zz.2.2.2.2.2.1) (by rw [e 31 (by decide)]; exact zz.2.2.2.2.2.2.1) (fun r r0 r1 => by rw [e 29 (by decide)]; exact zz.2.2.2.2.2.2.2.1 r r0 r1) (fun r r0 r1 => by rw [e 30 (by decide)]; exact zz.2.2.2.2.2.2.2.2 r r0 r1) (fun j j9 j18 => (hf _ (fun k hk => by omega)).1.trans (a4 (S 1 0) j (Int.le_refl _) hs n0 j18)) h1
      exact RSes_at (fun m hm => eqAt_sq (by unfold nmS nS nW at hm; rcases hm with ⟨j, j1, j2⟩ | ⟨w, w1, w2, w3⟩ <;> omega)) (fun m m1 _ => eqAt_sq (by omega)) hn
    · have hb := hI.2.2.1.2.1 t ht.1 (by omega)
      exact RSes_agS hJ.1 hJ.2.1 hJ.2.2.1 hb.2.2.1 hb.2.2.2.1 (fun f j hj => e f (by unfold inS at hj; omega) j) (RSes_at (fun m hm => fr m (by unfold nmS nS nW at hm; rcases hm with ⟨j, j1, j2⟩ | ⟨w, w1, w2, w3⟩ <;> omega) (fun k hk => by unfold nmS nS nW at hm; unfold nS; rcases hm with ⟨j, j1, j2⟩ | ⟨w, w1, w2, w3⟩ <;> omega)) (fun m m1 _ => fr m (by omega) (fun k hk => by unfold nS; omega)) (a2 t ⟨ht.1, by omega⟩))
  · rw [isC, e 2 (by decide)] at hcc
    exact RCli_ag ⟨fun f h5 h9 => e f (by omega) c, fun j _ _ => e 40 (by decide) _⟩ (RCli_at (fun k hk => fr _ (by unfold nC; omega) (fun k2 hk2 => by unfold nC nS; omega)) (a3 c hcc))
  · rw [e1]
    exact fun t j t1 t4 t0 hj => (fr _ (by unfold nS; omega) (fun k hk => by unfold nS; omega)).1.trans (a4 t j (by omega) t4 t0 hj)
  · simp only [e 4 (by decide)]
    exact fun t w t0 t1 w0 w1 => by
      have y := a5 t w t0 t1 w0 w1
      have yb := hN.2.2.2.2 t t0 t1
      exact ⟨(fr _ (by unfold nW; omega) (fun k hk => by unfold nW nS; omega)).1.trans y.1, (fr _ (by unfold nW; omega) (fun k hk => by unfold nW nS; omega)).1.trans y.2⟩
  · rw [e 2 (by decide)]
    exact fun d k d1 d6 d0 hk => (fr _ (by unfold nC; omega) (fun k2 hk2 => by unfold nC nS; omega)).1.trans (a6 d k d1 d6 d0 hk)
theorem opW_e {S : S9} {s x y a b : Int} (h6 : S 4 s < 6) (h4 : 0 ≤ S 4 s) (h16 : 0 ≤ S 16 s) (h17 : S 16 s < 6) (f : Nat) (j : Int) (h : ¬ inS s f j) : opW S s x y a b f j = S f j := by
  unfold inS at h
  unfold opW up
  rw [if_neg (by omega), if_neg (by omega), if_neg (by omega), if_neg (by omega), if_neg (by omega), if_neg (by omega), if_neg (by omega), if_neg (by omega), if_neg (by omega)]
