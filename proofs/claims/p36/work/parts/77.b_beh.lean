set_option maxHeartbeats 4000000 in
set_option maxRecDepth 100000 in
theorem c_X6_begin {l : Launch} (hl : l.stackTraces = false) {S : S9} {h : zH} {s : Int} (hT : RT S h s)  : zC l MX6_begin [zR (some (nS s + 6))] h (fun o h' => o = .inl none ∧ RT (notI (up S 26 s 1) s 8) h' s ∧ ∀ m, m ≠ nS s + 6 → m ≠ nS s + 8 → eqAt m h h') := by
  refine zC_of hl rfl rfl (by decide) rfl rfl (Nat.le_of_ble_eq_true rfl) ?_
  obtain ⟨⟨o1, o2, o3, o4, o5⟩, -⟩ := id hT
  refine e_aload_n dX6_begin_0 rfl rfl ?_
  refine e_iconst dX6_begin_1 ?_
  refine e_putI dX6_begin_2 flX6_19 (Or.inl rfl) (by first | exact Or.inl rfl | exact Or.inr rfl | assumption) (show zK h (nS s + 6) = 7 + 1 from o1) (by omega) ?_
  refine e_iconst dX6_begin_5 ?_
  refine e_istore_n dX6_begin_6 rfl (by decide) rfl rfl ?_
  have lp7 : ∀ (d : Nat) (i : Int) (h1 : zH), (8 - i).toNat < d → 0 ≤ i → i ≤ 8 → RT (notI (up S 26 s 1) s i) h1 s → (∀ m, m ≠ nS s + 6 → m ≠ nS s + 8 → eqAt m h h1) → AW l MX6_begin (fun o h' => o = .inl none ∧ RT (notI (up S 26 s 1) s 8) h' s ∧ ∀ m, m ≠ nS s + 6 → m ≠ nS s + 8 → eqAt m h h') 0 0 7 [zR (some (nS s + 6)), zI i] [] h1 := by
    intro d
    induction d with
    | zero => intro i h1 hd i0 i1 hT1 hF1; exact absurd hd (by omega)
    | succ d ih =>
      have ih7 := ih
      intro i h1 hd i0 i1 hT1 hF1
      obtain ⟨⟨p1, p2, p3, p4, p5⟩, -, u1, u2, u3⟩ := id hT1
      refine e_iload_n dX6_begin_7 rfl rfl ?_
      refine e_bipush dX6_begin_8 (by decide) ?_
      refine e_icmp_ge (tgt := 26) dX6_begin_10 (by decide) (by omega) (by omega) (fun c10 => ?_) (fun c10 => ?_)
      · skip
        refine e_vret dX6_begin_26 rfl (by decide) (by decide) ?_
        rw [show i = 8 by omega] at hT1
        exact ⟨rfl, hT1, hF1⟩
      · skip
        refine e_aload_n dX6_begin_13 rfl rfl ?_
        refine e_getR dX6_begin_14 flX6_15 rfl (show zK h1 (nS s + 6) = 7 + 1 from p1) p3 ?_
        refine e_iload_n dX6_begin_17 rfl rfl ?_
        refine e_iconst dX6_begin_18 ?_
        refine e_zast dX6_begin_19 (show zK h1 (nS s + 8) = 101 from u1) (by omega) (by rw [u2]; omega) (by first | exact Or.inl rfl | exact Or.inr rfl | assumption) ?_
        refine e_iinc dX6_begin_20 (by decide) rfl rfl rfl rfl ?_
        refine e_goto (tgt := 7) dX6_begin_23 (by decide) ?_
        exact ih7 _ _ (by omega) (by omega) (by omega) (RT_beg hT1 i0) (fun m m1 m2 => eqAt_tr (hF1 m m1 m2) (eqAt_sa m2))
  exact lp7 9 0 _ (by decide) (by decide) (by decide) (RT_beg0 hT) (fun m m1 m2 => eqAt_sf m1)
set_option maxHeartbeats 4000000 in
set_option maxRecDepth 100000 in
theorem c_X0_isBehind {l : Launch} (hl : l.stackTraces = false) {S : S9} {h : zH} {c : Int} (hP : RPc S h c) (hC : RCo h (S 35 c) (screenAt S (S 35 c))) (i : Int) (i0 : 0 ≤ i) (i1 : i < 96)  : zC l MX0_isBehind [zR (some (nC c + 1)), zI i] h (fun o h' => o = .inl (some (zI (b2 (S 40 (96 * c + i) ≠ screenAt S (S 35 c) i)))) ∧ h' = h) := by
  refine zC_of hl rfl rfl (by decide) rfl rfl (Nat.le_of_ble_eq_true rfl) ?_
  obtain ⟨⟨o1, o2, o3⟩, t1, t2, t3⟩ := id hP
  obtain ⟨q1, q2, q3⟩ := id hC
  refine e_aload_n dX0_isBehind_0 rfl rfl ?_
  refine e_getR dX0_isBehind_1 flX0_15 rfl (show zK h (nC c + 1) = 1 + 1 from o1) o2 ?_
  refine e_iload_n dX0_isBehind_4 rfl rfl ?_
  refine e_iald dX0_isBehind_5 (show zK h (nC c + 2) = 100 from t1) (by omega) (by rw [t2]; omega) (t3 i (by omega) (by omega)) (fun r5 => ?_)
  refine e_aload_n dX0_isBehind_6 rfl rfl ?_
  refine e_getR dX0_isBehind_7 flX0_9 rfl (show zK h (nC c + 1) = 1 + 1 from o1) o3 ?_
  refine e_iload_n dX0_isBehind_10 rfl rfl ?_
  refine e_iald dX0_isBehind_11 (show zK h (nS (S 35 c) + 4) = 100 from q1) (by omega) (by rw [q2]; omega) (q3 i (by omega) (by omega)) (fun r11 => ?_)
  refine e_icmp_eq (tgt := 19) dX0_isBehind_12 (by decide) (by omega) (by omega) (fun c12 => ?_) (fun c12 => ?_)
  · skip
    refine e_iconst dX0_isBehind_19 ?_
    refine e_iret dX0_isBehind_20 rfl (by first | exact Or.inl rfl | exact Or.inr rfl | assumption | exact b2_01) (by decide) (by decide) ?_
    exact ⟨zqe (by first | exact (b2_t (by omega)).symm | exact (b2_f (by omega)).symm), rfl⟩
  · skip
    refine e_iconst dX0_isBehind_15 ?_
    refine e_goto (tgt := 20) dX0_isBehind_16 (by decide) ?_
    refine e_iret dX0_isBehind_20 rfl (by first | exact Or.inl rfl | exact Or.inr rfl | assumption | exact b2_01) (by decide) (by decide) ?_
    exact ⟨zqe (by first | exact (b2_t (by omega)).symm | exact (b2_f (by omega)).symm), rfl⟩
set_option maxHeartbeats 4000000 in
set_option maxRecDepth 100000 in
theorem c_X1_countBehind {l : Launch} (hl : l.stackTraces = false) {S : S9} {h : zH} {c : Int} (hP : RPc S h c) (hC : RCo h (S 35 c) (screenAt S (S 35 c))) (hCl : RCl S h c)  : zC l MX1_countBehind [zR (some (nC c))] h (fun o h' => o = .inl (some (zI (cntB S c))) ∧ h' = h) := by
  refine zC_of hl rfl rfl (by decide) rfl rfl (Nat.le_of_ble_eq_true rfl) ?_
  obtain ⟨⟨o1, o2, o3⟩, t1, t2, t3⟩ := id hP
  obtain ⟨q1, q2, q3⟩ := id hC
  obtain ⟨r1, r2, r3, r4, -⟩ := id hCl
  refine e_iconst dX1_countBehind_0 ?_
  refine e_istore_n dX1_countBehind_1 rfl (by decide) rfl rfl ?_
  refine e_iconst dX1_countBehind_2 ?_
  refine e_istore_n dX1_countBehind_3 rfl (by decide) rfl rfl ?_
  have lp4 : ∀ (d : Nat) (i v : Int), (96 - i).toNat < d → 0 ≤ i → i ≤ 96 → v = sg (fun p => b2 (S 40 (96 * c + p) ≠ screenAt S (S 35 c) p)) i.toNat → AW l MX1_countBehind (fun o h' => o = .inl (some (zI (cntB S c))) ∧ h' = h) 0 0 4 [zR (some (nC c)), zI v, zI i] [] h := by
    intro d
    induction d with
    | zero => intro i v hd i0 i1 hv; exact absurd hd (by omega)
    | succ d ih =>
      have ih4 := ih
      intro i v hd i0 i1 hv
      have cc := sg_in1 (f := (fun p => b2 (S 40 (96 * c + p) ≠ screenAt S (S 35 c) p))) (fun _ _ => b2_le) i i0
      refine e_iload_n dX1_countBehind_4 rfl rfl ?_
      refine e_bipush dX1_countBehind_5 (by decide) ?_
      refine e_icmp_ge (tgt := 30) dX1_countBehind_7 (by decide) (by omega) (by omega) (fun c7 => ?_) (fun c7 => ?_)
      · skip
        refine e_iload_n dX1_countBehind_30 rfl rfl ?_
        refine e_iret dX1_countBehind_31 rfl trivial (by decide) (by decide) ?_
        exact ⟨zqe (by rw [hv, show i = 96 by omega]; rfl), rfl⟩
      · skip
        refine e_aload_n dX1_countBehind_10 rfl rfl ?_
        refine e_getR dX1_countBehind_11 flX1_30 rfl (show zK h (nC c) = 2 + 1 from r1) r4 ?_
        refine e_iload_n dX1_countBehind_14 rfl rfl ?_
        refine e_callV (As := [zI _]) (cb := 1) dX1_countBehind_15 moX0_isBehind mvX0_isBehind mlX1_38 (by decide) rfl (show zK h (nC c + 1) = 1 + 1 from o1) rfl (Nat.le_of_ble_eq_true rfl) ⟨by decide, by decide, by decide, by decide⟩ (c_X0_isBehind hl hP hC i (by omega) (by omega)) (fun E h1 q => by cases q.1) (fun v h9 q => ?_)
        obtain ⟨e1, e2⟩ := q; cases e1; rw [e2]; clear e2 h9
        refine e_if_eq (tgt := 24) dX1_countBehind_18 (by decide) b2_in (fun c18 => ?_) (fun c18 => ?_)
        · skip
          try simp only [b2_0, b2_n0] at c18
          refine e_iinc dX1_countBehind_24 (by decide) rfl rfl rfl rfl ?_
          refine e_goto (tgt := 4) dX1_countBehind_27 (by decide) ?_
          refine ih4 _ _ (by omega) (by omega) (by omega) ?_
          rw [sg_s i0, ← hv]
          first
            | (rw [b2_t (by omega)]; done)
            | (rw [b2_f (by omega), Int.add_zero]; done)
        · skip
          try simp only [b2_0, b2_n0] at c18
          refine e_iinc dX1_countBehind_21 (by decide) rfl rfl rfl rfl ?_
          refine e_iinc dX1_countBehind_24 (by decide) rfl rfl rfl rfl ?_
          refine e_goto (tgt := 4) dX1_countBehind_27 (by decide) ?_
          refine ih4 _ _ (by omega) (by omega) (by omega) ?_
          rw [sg_s i0, ← hv]
          first
            | (rw [b2_t (by omega)]; done)
            | (rw [b2_f (by omega), Int.add_zero]; done)
  exact lp4 97 0 0 (by decide) (by decide) (by decide) rfl
