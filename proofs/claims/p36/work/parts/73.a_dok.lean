theorem RV_put {T : S9} {h h2 : zH} {s k : Int} (hJU : JJ (keyW T s k)) (hk : IK1 T s k) (ho : T 10 (T 18 (20 * s + k)) = 1) (hRw : RW (keyW T s k) h2 (T 18 (20 * s + k))) (hF : ∀ m, m ≠ nW (T 18 (20 * s + k)) → m ≠ nW (T 18 (20 * s + k)) + 1 → eqAt m h h2) (a : RV T h s) : RV (keyW T s k) h2 s := by
  obtain ⟨⟨s0, s1⟩, hN, hI, hO, hSo, ⟨ed, cp, hL, hed⟩, hWs⟩ := id a
  have hn := hN.2.2.2.2 s s0 s1
  have hw := hk.1
  have ew : keyW T s k = up (up T 14 (96 * T 18 (20 * s + k) + T 9 (T 18 (20 * s + k))) (if T 13 (T 18 (20 * s + k)) = 1 then 7 else T 19 (20 * s + k))) 9 (T 18 (20 * s + k)) ((T 9 (T 18 (20 * s + k)) + 1) % (T 7 (T 18 (20 * s + k)) * T 8 (T 18 (20 * s + k)))) := by
    unfold keyW
    rw [if_pos ho]
  have hIw := hI _ _ hw
  obtain ⟨w1, w2, w3, w4, w5, w6, w7, w8, w9, w10⟩ := id hIw
  have wa := area_le w5 w6 w7 w8
  generalize T 18 (20 * s + k) = w at *
  have ns : ∀ j, j ≤ 18 → eqAt (nS s + j) h h2 := fun j hj => hF _ (by unfold nS nW; omega) (by unfold nS nW; omega)
  refine ⟨⟨s0, s1⟩, hJU.1, hJU.2.1, hJU.2.2.1, ?_, ⟨ed, cp, ?_, ?_⟩, fun w' hw' => ?_⟩
  · have z := RSo_at (ns 0 (by decide)) hSo
    unfold RSo at z ⊢
    rw [keyW_f (by decide), keyW_f (by decide)]
    exact z
  · refine LA_eqq (keyW_f (by decide)) (fun i _ _ => by unfold pileQ; rw [keyW_f (by decide)]) (LA_at (ns 2 (by decide)) (fun z => ?_) hL)
    rcases hed with y | y
    · omega
    · rw [y.1]
      exact ns 15 (by decide)
  · exact hed.elim (fun y => Or.inl ⟨y.1, (ns 15 (by decide)).1.trans y.2⟩) Or.inr
  · rw [hasW, keyW_f (by decide)] at hw'
    by_cases z : w' = w
    · rw [z]
      exact hRw
    · have hI' := hI _ _ hw'
      obtain ⟨v1, v2, v3, v4, v5, v6, v7, v8, v9, v10⟩ := id hI'
      have va := area_le v5 v6 v7 v8
      rw [ew]
      exact RW_at (hF _ (by unfold nW; omega) (by unfold nW; omega)) (hF _ (by unfold nW; omega) (by unfold nW; omega)) (RW_put (hWs w' hw') z (by omega) va.2)
theorem Sx_put {T : S9} {h h2 h3 : zH} {s k : Int} {ed : Nat} {cp : Int} {kn : Int → Nat} (hk : IK1 T s k) (hV : RV (keyW T s k) h2 s) (hF : ∀ m, m ≠ nW (T 18 (20 * s + k)) → m ≠ nW (T 18 (20 * s + k)) + 1 → eqAt m h h2) (hC : RCo h3 s (screenAt (keyW T s k) s)) (hF3 : ∀ m, m ≠ nS s + 4 → eqAt m h2 h3) (a : Sx T h s ed cp kn) : Sx (keyW T s k) h3 s ed cp kn := by
  obtain ⟨hV0, hK, hCo, hCl⟩ := a
  obtain ⟨⟨s0, s1⟩, hN, -⟩ := id hV0
  have hn := hN.2.2.2.2 s s0 s1
  have hw := hk.1
  have n2 := hN.2.2.1
  have n3 := hN.2.2.2.1
  have e : ∀ m, m ≠ nW (T 18 (20 * s + k)) → m ≠ nW (T 18 (20 * s + k)) + 1 → m ≠ nS s + 4 → eqAt m h h3 := fun m m1 m2 m3 => eqAt_tr (hF m m1 m2) (hF3 m m3)
  generalize T 18 (20 * s + k) = w at *
  have ns : ∀ j, j ≤ 18 → j ≠ 4 → eqAt (nS s + j) h h3 := fun j hj hj4 => e _ (by unfold nS nW; omega) (by unfold nS nW; omega) (by omega)
  refine ⟨RV_at hF3 hV, RKx_agf (fun f hf j => keyW_f (by omega)) (RKx_at (ns 3 (by decide) (by decide)) (ns 16 (by decide) (by decide)) (ns 17 (by decide) (by decide)) (ns 18 (by decide) (by decide)) (fun m hm => e _ (by unfold nW; omega) (by unfold nW; omega) (by unfold nS; omega)) hK), hC, fun c c0 c1 => ?_⟩
  rw [keyW_f (by decide)] at c1
  exact RCl_agf (fun f h5 h9 => keyW_f (by omega)) (RCl_at (e _ (by unfold nW nC; omega) (by unfold nW nC; omega) (by unfold nS nC; omega)) (hCl c c0 c1))
/-- what doing the keys leaves as it was -/
def dkF (S : S9) (s : Int) (m : Nat) : Prop := (∀ w, hasW S s w → m ≠ nW w ∧ m ≠ nW w + 1) ∧ m ≠ nS s + 4 ∧ ∀ c, 0 ≤ c → c < S 2 0 → m ≠ nC c
theorem Sx_clear {T : S9} {h h' : zH} {s : Int} {ed : Nat} {cp : Int} {kn : Int → Nat} (hJ : JJ T) (s0 : 0 ≤ s) (s1 : s < 4) (hL : LA h' (nS s + 3) ed cp 0 (fun i => some (kn i))) (hF : ∀ m, m ≠ nS s + 3 → m ≠ ed → eqAt m h h') (a : Sx T h s ed cp kn) : Sx (up T 17 s 0) h' s ed cp kn := by
  obtain ⟨hV, ⟨hL0, hcp, hks⟩, hCo, hCl⟩ := a
  have hn := hJ.1.2.2.2.2 s s0 s1
  have n2 := hJ.1.2.2.1
  have n3 := hJ.1.2.2.2.1
  have e : ∀ m, m ≠ nS s + 3 → m ≠ nS s + 16 → m ≠ nS s + 17 → m ≠ nS s + 18 → 0 < m → eqAt m h h' := fun m m1 m2 m3 m4 m5 => hF m m1 (by omega)
  have ns : ∀ j, j ≤ 15 → j ≠ 3 → eqAt (nS s + j) h h' := fun j hj hj4 => e _ (by omega) (by omega) (by omega) (by omega) (by unfold nS; omega)
  have hV2 : RV T h' s := RV_fr (ns 0 (by decide) (by decide)) (ns 2 (by decide) (by decide)) (ns 15 (by decide) (by decide)) (fun w hw => ⟨e _ (by unfold nW nS; omega) (by unfold nW nS; omega) (by unfold nW nS; omega) (by unfold nW nS; omega) (by unfold nW; omega), e _ (by unfold nW nS; omega) (by unfold nW nS; omega) (by unfold nW nS; omega) (by unfold nW nS; omega) (by unfold nW; omega)⟩) hV
  have hN' : IN (up T 17 s 0) := by
    refine ⟨hJ.1.1, hJ.1.2.1, n2, n3, fun t t0 t1 => ?_⟩
    have z := hJ.1.2.2.2.2 t t0 t1
    rw [up_f (by decide), up_f (by decide)]
    by_cases y : t = s
    · rw [y, up_eq]
      rw [y] at z
      omega
    · rw [up_i y]
      exact z
  refine ⟨RV_agf hN' (IW_ag (fun f h4 h9 j => up_f (by omega)) hJ.2.1) (IO_ag (fun f hf j => up_f (by omega)) hJ.2.2.1) (fun f hf j => up_f (by omega)) (fun w hw => ?_) hV2, ⟨LA_eqq up_eq (fun _ _ _ => rfl) hL, ?_, fun k k0 k1 => ?_⟩, RCo_eq (fun p _ _ => screenAt_ag (fun f h5 h6 j => up_f (by omega)) s p) (RCo_at (ns 4 (by decide) (by decide)) hCo), fun c c0 c1 => RCl_agf (fun f h5 h9 => up_f (by omega)) (RCl_at (e _ (by unfold nC nS; omega) (by unfold nC nS; omega) (by unfold nC nS; omega) (by unfold nC nS; omega) (by unfold nC; omega)) (hCl c c0 c1))⟩
  · rw [hasW, up_f (by decide)] at hw
    exact RW_agf (fun f hf j => up_f (by omega)) (hV2.2.2.2.2.2.2 w hw)
  · have z : ∀ j, 16 ≤ j → j ≤ 18 → nS s + j ≠ ed → eqAt (nS s + j) h h' := fun j h1 h2 h3 => hF _ (by omega) h3
    rcases hcp with ⟨y1, y2, y3, y4⟩ | ⟨y1, y2, y3, y4⟩ | ⟨y1, y2, y3⟩ | y
    · exact Or.inl ⟨y1, (z 16 (by decide) (by decide) (by omega)).1.trans y2, (z 17 (by decide) (by decide) (by omega)).1.trans y3, (z 18 (by decide) (by decide) (by omega)).1.trans y4⟩
    · exact Or.inr (Or.inl ⟨y1, y2, (z 17 (by decide) (by decide) (by omega)).1.trans y3, (z 18 (by decide) (by decide) (by omega)).1.trans y4⟩)
    · exact Or.inr (Or.inr (Or.inl ⟨y1, y2, (z 18 (by decide) (by decide) (by omega)).1.trans y3⟩))
    · exact Or.inr (Or.inr (Or.inr y))
  · rw [up_eq] at k1
    omega
