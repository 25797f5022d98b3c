set_option maxHeartbeats 4000000 in
set_option maxRecDepth 100000 in
theorem c_X0_gainOf {l : Launch} (hl : l.stackTraces = false) {S : S9} {h : zH} {c : Int} (hP : RPc S h c) (hC : RCo h (S 35 c) (screenAt S (S 35 c))) (i v : Int) (i0 : 0 ≤ i) (i1 : i < 96) (hv : zin v)  : zC l MX0_gainOf [zR (some (nC c + 1)), zI i, zI v] h (fun o h' => o = .inl (some (zI (b2 (v = screenAt S (S 35 c) i) - b2 (S 40 (96 * c + i) = screenAt S (S 35 c) i)))) ∧ h' = h) := by
  refine zC_of hl rfl rfl (by decide) rfl rfl (Nat.le_of_ble_eq_true rfl) ?_
  obtain ⟨⟨o1, o2, o3⟩, t1, t2, t3⟩ := id hP
  obtain ⟨q1, q2, q3⟩ := id hC
  refine e_aload_n dX0_gainOf_0 rfl rfl ?_
  refine e_getR dX0_gainOf_1 flX0_15 rfl (show zK h (nC c + 1) = 1 + 1 from o1) o2 ?_
  refine e_iload_n dX0_gainOf_4 rfl rfl ?_
  refine e_iald dX0_gainOf_5 (show zK h (nC c + 2) = 100 from t1) (by omega) (by rw [t2]; omega) (t3 i (by omega) (by omega)) (fun r5 => ?_)
  refine e_aload_n dX0_gainOf_6 rfl rfl ?_
  refine e_getR dX0_gainOf_7 flX0_9 rfl (show zK h (nC c + 1) = 1 + 1 from o1) o3 ?_
  refine e_iload_n dX0_gainOf_10 rfl rfl ?_
  refine e_iald dX0_gainOf_11 (show zK h (nS (S 35 c) + 4) = 100 from q1) (by omega) (by rw [q2]; omega) (q3 i (by omega) (by omega)) (fun r11 => ?_)
  refine e_icmp_ne (tgt := 19) dX0_gainOf_12 (by decide) (by omega) (by omega) (fun c12 => ?_) (fun c12 => ?_)
  · skip
    refine e_iconst dX0_gainOf_19 ?_
    refine e_istore_n dX0_gainOf_20 rfl (by decide) rfl rfl ?_
    refine e_iload_n dX0_gainOf_21 rfl rfl ?_
    refine e_aload_n dX0_gainOf_22 rfl rfl ?_
    refine e_getR dX0_gainOf_23 flX0_9 rfl (show zK h (nC c + 1) = 1 + 1 from o1) o3 ?_
    refine e_iload_n dX0_gainOf_26 rfl rfl ?_
    refine e_iald dX0_gainOf_27 (show zK h (nS (S 35 c) + 4) = 100 from q1) (by omega) (by rw [q2]; omega) (q3 i (by omega) (by omega)) (fun r27 => ?_)
    refine e_icmp_ne (tgt := 35) dX0_gainOf_28 (by decide) (by omega) (by omega) (fun c28 => ?_) (fun c28 => ?_)
    · skip
      refine e_iconst dX0_gainOf_35 ?_
      refine e_istore dX0_gainOf_36 (by decide) rfl rfl ?_
      refine e_iload dX0_gainOf_38 rfl ?_
      refine e_iload_n dX0_gainOf_40 rfl rfl ?_
      refine e_isub dX0_gainOf_41 ?_
      refine e_iret dX0_gainOf_42 rfl trivial (by decide) (by decide) ?_
      have e1 : b2 (v = screenAt S (S 35 c) i) = 0 ∨ b2 (v = screenAt S (S 35 c) i) = 1 := b2_01
      have g1 := b2_t (p := v = screenAt S (S 35 c) i)
      have g2 := b2_f (p := v = screenAt S (S 35 c) i)
      have g3 := b2_t (p := S 40 (96 * c + i) = screenAt S (S 35 c) i)
      have g4 := b2_f (p := S 40 (96 * c + i) = screenAt S (S 35 c) i)
      refine ⟨zqe ?_, rfl⟩
      first
        | (rw [g1 (by omega), g3 (by omega)]; done)
        | (rw [g1 (by omega), g4 (by omega)]; done)
        | (rw [g2 (by omega), g3 (by omega)]; done)
        | (rw [g2 (by omega), g4 (by omega)]; done)
    · skip
      refine e_iconst dX0_gainOf_31 ?_
      refine e_goto (tgt := 36) dX0_gainOf_32 (by decide) ?_
      refine e_istore dX0_gainOf_36 (by decide) rfl rfl ?_
      refine e_iload dX0_gainOf_38 rfl ?_
      refine e_iload_n dX0_gainOf_40 rfl rfl ?_
      refine e_isub dX0_gainOf_41 ?_
      refine e_iret dX0_gainOf_42 rfl trivial (by decide) (by decide) ?_
      have e1 : b2 (v = screenAt S (S 35 c) i) = 0 ∨ b2 (v = screenAt S (S 35 c) i) = 1 := b2_01
      have g1 := b2_t (p := v = screenAt S (S 35 c) i)
      have g2 := b2_f (p := v = screenAt S (S 35 c) i)
      have g3 := b2_t (p := S 40 (96 * c + i) = screenAt S (S 35 c) i)
      have g4 := b2_f (p := S 40 (96 * c + i) = screenAt S (S 35 c) i)
      refine ⟨zqe ?_, rfl⟩
      first
        | (rw [g1 (by omega), g3 (by omega)]; done)
        | (rw [g1 (by omega), g4 (by omega)]; done)
        | (rw [g2 (by omega), g3 (by omega)]; done)
        | (rw [g2 (by omega), g4 (by omega)]; done)
  · skip
    refine e_iconst dX0_gainOf_15 ?_
    refine e_goto (tgt := 20) dX0_gainOf_16 (by decide) ?_
    refine e_istore_n dX0_gainOf_20 rfl (by decide) rfl rfl ?_
    refine e_iload_n dX0_gainOf_21 rfl rfl ?_
    refine e_aload_n dX0_gainOf_22 rfl rfl ?_
    refine e_getR dX0_gainOf_23 flX0_9 rfl (show zK h (nC c + 1) = 1 + 1 from o1) o3 ?_
    refine e_iload_n dX0_gainOf_26 rfl rfl ?_
    refine e_iald dX0_gainOf_27 (show zK h (nS (S 35 c) + 4) = 100 from q1) (by omega) (by rw [q2]; omega) (q3 i (by omega) (by omega)) (fun r27 => ?_)
    refine e_icmp_ne (tgt := 35) dX0_gainOf_28 (by decide) (by omega) (by omega) (fun c28 => ?_) (fun c28 => ?_)
    · skip
      refine e_iconst dX0_gainOf_35 ?_
      refine e_istore dX0_gainOf_36 (by decide) rfl rfl ?_
      refine e_iload dX0_gainOf_38 rfl ?_
      refine e_iload_n dX0_gainOf_40 rfl rfl ?_
      refine e_isub dX0_gainOf_41 ?_
      refine e_iret dX0_gainOf_42 rfl trivial (by decide) (by decide) ?_
      have e1 : b2 (v = screenAt S (S 35 c) i) = 0 ∨ b2 (v = screenAt S (S 35 c) i) = 1 := b2_01
      have g1 := b2_t (p := v = screenAt S (S 35 c) i)
      have g2 := b2_f (p := v = screenAt S (S 35 c) i)
      have g3 := b2_t (p := S 40 (96 * c + i) = screenAt S (S 35 c) i)
      have g4 := b2_f (p := S 40 (96 * c + i) = screenAt S (S 35 c) i)
      refine ⟨zqe ?_, rfl⟩
      first
        | (rw [g1 (by omega), g3 (by omega)]; done)
        | (rw [g1 (by omega), g4 (by omega)]; done)
        | (rw [g2 (by omega), g3 (by omega)]; done)
        | (rw [g2 (by omega), g4 (by omega)]; done)
    · skip
      refine e_iconst dX0_gainOf_31 ?_
      refine e_goto (tgt := 36) dX0_gainOf_32 (by decide) ?_
      refine e_istore dX0_gainOf_36 (by decide) rfl rfl ?_
      refine e_iload dX0_gainOf_38 rfl ?_
      refine e_iload_n dX0_gainOf_40 rfl rfl ?_
      refine e_isub dX0_gainOf_41 ?_
      refine e_iret dX0_gainOf_42 rfl trivial (by decide) (by decide) ?_
      have e1 : b2 (v = screenAt S (S 35 c) i) = 0 ∨ b2 (v = screenAt S (S 35 c) i) = 1 := b2_01
      have g1 := b2_t (p := v = screenAt S (S 35 c) i)
      have g2 := b2_f (p := v = screenAt S (S 35 c) i)
      have g3 := b2_t (p := S 40 (96 * c + i) = screenAt S (S 35 c) i)
      have g4 := b2_f (p := S 40 (96 * c + i) = screenAt S (S 35 c) i)
      refine ⟨zqe ?_, rfl⟩
      first
        | (rw [g1 (by omega), g3 (by omega)]; done)
        | (rw [g1 (by omega), g4 (by omega)]; done)
        | (rw [g2 (by omega), g3 (by omega)]; done)
        | (rw [g2 (by omega), g4 (by omega)]; done)
set_option maxHeartbeats 4000000 in
set_option maxRecDepth 100000 in
theorem c_J7_fill_53178 {l : Launch} (hl : l.stackTraces = false) {h : zH} (a : Nat) (N v : Int) (kA : zK h a = 100) (nA : zN h a = N) (n0 : 0 ≤ N) (n1 : N ≤ 1000000) (hv : zin v)  : zC l MJ7_fill_53178 [zR (some a), zI v] h (fun o h' => o = .inl none ∧ zK h' a = 100 ∧ zN h' a = N ∧ (∀ j, 0 ≤ j → j < N → za h' a j = v) ∧ ∀ m, m ≠ a → eqAt m h h') := by
  refine zC_of hl rfl rfl (by decide) rfl rfl (Nat.le_of_ble_eq_true rfl) ?_
  refine e_iconst dJ7_fill_53178_0 ?_
  refine e_istore_n dJ7_fill_53178_1 rfl (by decide) rfl rfl ?_
  refine e_aload_n dJ7_fill_53178_2 rfl rfl ?_
  refine e_alen dJ7_fill_53178_3 (t := 0) kA nA ?_
  refine e_istore_n dJ7_fill_53178_4 rfl (by decide) rfl rfl ?_
  have lp5 : ∀ (d : Nat) (i : Int) (h1 : zH), (N - i).toNat < d → 0 ≤ i → i ≤ N → zK h1 a = 100 → zN h1 a = N → (∀ j, 0 ≤ j → j < i → za h1 a j = v) → (∀ m, m ≠ a → eqAt m h h1) → AW l MJ7_fill_53178 (fun o h' => o = .inl none ∧ zK h' a = 100 ∧ zN h' a = N ∧ (∀ j, 0 ≤ j → j < N → za h' a j = v) ∧ ∀ m, m ≠ a → eqAt m h h') 0 0 5 [zR (some a), zI v, zI i, zI N] [] h1 := by
    intro d
    induction d with
    | zero => intro i h1 hd i0 i1 kA1 nA1 hj hF1; exact absurd hd (by omega)
    | succ d ih =>
      have ih5 := ih
      intro i h1 hd i0 i1 kA1 nA1 hj hF1
      refine e_iload_n dJ7_fill_53178_5 rfl rfl ?_
      refine e_iload_n dJ7_fill_53178_6 rfl rfl ?_
      refine e_icmp_ge (tgt := 20) dJ7_fill_53178_7 (by decide) (by omega) (by omega) (fun c7 => ?_) (fun c7 => ?_)
      · skip
        refine e_vret dJ7_fill_53178_20 rfl (by decide) (by decide) ?_
        exact ⟨rfl, kA1, nA1, fun j j0 j1 => hj j j0 (by omega), hF1⟩
      · skip
        refine e_aload_n dJ7_fill_53178_10 rfl rfl ?_
        refine e_iload_n dJ7_fill_53178_11 rfl rfl ?_
        refine e_iload_n dJ7_fill_53178_12 rfl rfl ?_
        refine e_iast dJ7_fill_53178_13 kA1 (by omega) (by rw [nA1]; omega) (by omega) ?_
        refine e_iinc dJ7_fill_53178_14 (by decide) rfl rfl rfl rfl ?_
        refine e_goto (tgt := 5) dJ7_fill_53178_17 (by decide) ?_
        exact ih5 _ _ (by omega) (by omega) (by omega) kA1 nA1 (fun j j0 j1 => by
          by_cases z : j = i
          · rw [z]; exact z3_eq
          · exact (z3_ni z).trans (hj j j0 (by omega))) (fun m m1 => eqAt_tr (hF1 m m1) (eqAt_sa m1))
  exact lp5 (N + 1).toNat 0 h (by omega) (by omega) (by omega) kA nA (fun j j0 j1 => by omega) (fun m _ => eqAt_rf)
