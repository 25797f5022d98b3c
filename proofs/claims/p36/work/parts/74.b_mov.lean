set_option maxHeartbeats 4000000 in
set_option maxRecDepth 100000 in
theorem c_X6_isOther {l : Launch} (hl : l.stackTraces = false) {S : S9} {h : zH} {s : Int} (hT : RT S h s) (hC : RCo h s (screenAt S s)) (r : Int) (r0 : 0 ≤ r) (r1 : r < 8)  : zC l MX6_isOther [zR (some (nS s + 6)), zR (some (nS s + 4)), zI r] h (fun o h' => o = .inl (some (zI (otN S s r 12))) ∧ h' = h) := by
  refine zC_of hl rfl rfl (by decide) rfl rfl (Nat.le_of_ble_eq_true rfl) ?_
  obtain ⟨⟨o1, o2, o3, o4, o5⟩, ⟨t1, t2, t3⟩, u1, u2, u3⟩ := id hT
  obtain ⟨q1, q2, q3⟩ := id hC
  refine e_iload_n dX6_isOther_0 rfl rfl ?_
  refine e_bipush dX6_isOther_1 (by decide) ?_
  refine e_imul dX6_isOther_3 ?_
  refine e_istore_n dX6_isOther_4 rfl (by decide) rfl rfl ?_
  have lp5 : ∀ (d : Nat) (i : Int), (r * 12 + 12 - i).toNat < d → r * 12 ≤ i → i ≤ r * 12 + 12 → otN S s r (i - r * 12).toNat = 0 → AW l MX6_isOther (fun o h' => o = .inl (some (zI (otN S s r 12))) ∧ h' = h) 0 0 5 [zR (some (nS s + 6)), zR (some (nS s + 4)), zI r, zI i] [] h := by
    intro d
    induction d with
    | zero => intro i hd i0 i1 hi; exact absurd hd (by omega)
    | succ d ih =>
      have ih5 := ih
      intro i hd i0 i1 hi
      have ex : otN S s r (i + 1 - r * 12).toNat = b2 (otN S s r (i - r * 12).toNat = 1 ∨ S 30 (96 * s + i) ≠ screenAt S s i) := by
        rw [show (i + 1 - r * 12).toNat = (i - r * 12).toNat + 1 by omega, otN_s, show r * 12 + (((i - r * 12).toNat : Nat) : Int) = i by omega]
      refine e_iload_n dX6_isOther_5 rfl rfl ?_
      refine e_iload_n dX6_isOther_6 rfl rfl ?_
      refine e_iconst dX6_isOther_7 ?_
      refine e_iadd dX6_isOther_8 ?_
      refine e_bipush dX6_isOther_9 (by decide) ?_
      refine e_imul dX6_isOther_11 ?_
      refine e_icmp_ge (tgt := 35) dX6_isOther_12 (by decide) (by omega) (by omega) (fun c12 => ?_) (fun c12 => ?_)
      · skip
        refine e_iconst dX6_isOther_35 ?_
        refine e_iret dX6_isOther_36 rfl (by first | exact Or.inl rfl | exact Or.inr rfl | assumption | exact b2_01) (by decide) (by decide) ?_
        rw [show (i - r * 12).toNat = 12 by omega] at hi
        exact ⟨zqe hi.symm, rfl⟩
      · skip
        refine e_aload_n dX6_isOther_15 rfl rfl ?_
        refine e_getR dX6_isOther_16 flX6_9 rfl (show zK h (nS s + 6) = 7 + 1 from o1) o2 ?_
        refine e_iload_n dX6_isOther_19 rfl rfl ?_
        refine e_iald dX6_isOther_20 (show zK h (nS s + 7) = 100 from t1) (by omega) (by rw [t2]; omega) (t3 i (by omega) (by omega)) (fun r20 => ?_)
        refine e_aload_n dX6_isOther_21 rfl rfl ?_
        refine e_iload_n dX6_isOther_22 rfl rfl ?_
        refine e_iald dX6_isOther_23 (show zK h (nS s + 4) = 100 from q1) (by omega) (by rw [q2]; omega) (q3 i (by omega) (by omega)) (fun r23 => ?_)
        refine e_icmp_eq (tgt := 29) dX6_isOther_24 (by decide) (by omega) (by omega) (fun c24 => ?_) (fun c24 => ?_)
        · skip
          refine e_iinc dX6_isOther_29 (by decide) rfl rfl rfl rfl ?_
          refine e_goto (tgt := 5) dX6_isOther_32 (by decide) ?_
          exact ih5 _ (by omega) (by omega) (by omega) (by rw [ex, b2_f (by omega)])
        · skip
          refine e_iconst dX6_isOther_27 ?_
          refine e_iret dX6_isOther_28 rfl (by first | exact Or.inl rfl | exact Or.inr rfl | assumption | exact b2_01) (by decide) (by decide) ?_
          rw [b2_t (by omega)] at ex
          have e9 := otN_mono ex (12 - (i + 1 - r * 12).toNat)
          rw [show (i + 1 - r * 12).toNat + (12 - (i + 1 - r * 12).toNat) = 12 by omega] at e9
          exact ⟨zqe e9.symm, rfl⟩
  exact lp5 13 _ (by omega) (by omega) (by omega) (by rw [show (r * 12 - r * 12).toNat = 0 by omega]; rfl)
set_option maxHeartbeats 4000000 in
set_option maxRecDepth 100000 in
theorem c_X6_countRowsLeft {l : Launch} (hl : l.stackTraces = false) {S : S9} {h : zH} {s : Int} (hT : RT S h s) (hC : RCo h s (screenAt S s)) (hb : ∀ r, S 29 r = 0 ∨ S 29 r = 1)  : zC l MX6_countRowsLeft [zR (some (nS s + 6)), zR (some (nS s + 4))] h (fun o h' => o = .inl (some (zI (cntL S s))) ∧ h' = h) := by
  refine zC_of hl rfl rfl (by decide) rfl rfl (Nat.le_of_ble_eq_true rfl) ?_
  obtain ⟨⟨o1, o2, o3, o4, o5⟩, ⟨t1, t2, t3⟩, u1, u2, u3⟩ := id hT
  obtain ⟨q1, q2, q3⟩ := id hC
  refine e_iconst dX6_countRowsLeft_0 ?_
  refine e_istore_n dX6_countRowsLeft_1 rfl (by decide) rfl rfl ?_
  refine e_iconst dX6_countRowsLeft_2 ?_
  refine e_istore_n dX6_countRowsLeft_3 rfl (by decide) rfl rfl ?_
  have lp4 : ∀ (d : Nat) (i v : Int), (8 - i).toNat < d → 0 ≤ i → i ≤ 8 → v = sg (fun r => isL S s r) i.toNat → AW l MX6_countRowsLeft (fun o h' => o = .inl (some (zI (cntL S s))) ∧ h' = h) 0 0 4 [zR (some (nS s + 6)), zR (some (nS s + 4)), zI v, zI i] [] h := by
    intro d
    induction d with
    | zero => intro i v hd i0 i1 hv; exact absurd hd (by omega)
    | succ d ih =>
      have ih4 := ih
      intro i v hd i0 i1 hv
      have cc := sg_in1 (f := (fun r => isL S s r)) (fun _ _ => isL_le) i i0
      have o01 := otN_01 (S := S) (s := s) (r := i) 12
      have hbi := hb (8 * s + i)
      have ei : isL S s i = b2 (¬ S 29 (8 * s + i) = 1 ∨ otN S s i 12 = 1) := isL_ot
      refine e_iload_n dX6_countRowsLeft_4 rfl rfl ?_
      refine e_bipush dX6_countRowsLeft_5 (by decide) ?_
      refine e_icmp_ge (tgt := 37) dX6_countRowsLeft_7 (by decide) (by omega) (by omega) (fun c7 => ?_) (fun c7 => ?_)
      · skip
        refine e_iload_n dX6_countRowsLeft_37 rfl rfl ?_
        refine e_iret dX6_countRowsLeft_38 rfl trivial (by decide) (by decide) ?_
        exact ⟨zqe (by rw [hv, show i = 8 by omega]; rfl), rfl⟩
      · skip
        refine e_aload_n dX6_countRowsLeft_10 rfl rfl ?_
        refine e_getR dX6_countRowsLeft_11 flX6_15 rfl (show zK h (nS s + 6) = 7 + 1 from o1) o3 ?_
        refine e_iload_n dX6_countRowsLeft_14 rfl rfl ?_
        refine e_zald dX6_countRowsLeft_15 (show zK h (nS s + 8) = 101 from u1) (by omega) (by rw [u2]; omega) (u3 i (by omega) (by omega)) (fun r15 => ?_)
        refine e_if_eq (tgt := 28) dX6_countRowsLeft_16 (by decide) (by omega) (fun c16 => ?_) (fun c16 => ?_)
        · skip
          try simp only [b2_0, b2_n0] at c16
          refine e_iinc dX6_countRowsLeft_28 (by decide) rfl rfl rfl rfl ?_
          refine e_iinc dX6_countRowsLeft_31 (by decide) rfl rfl rfl rfl ?_
          refine e_goto (tgt := 4) dX6_countRowsLeft_34 (by decide) ?_
          refine ih4 _ _ (by omega) (by omega) (by omega) ?_
          rw [sg_s i0, ← hv]
          first
            | (rw [ei, b2_t (by omega)]; done)
            | (rw [ei, b2_f (by omega), Int.add_zero]; done)
        · skip
          try simp only [b2_0, b2_n0] at c16
          refine e_aload_n dX6_countRowsLeft_19 rfl rfl ?_
          refine e_aload_n dX6_countRowsLeft_20 rfl rfl ?_
          refine e_iload_n dX6_countRowsLeft_21 rfl rfl ?_
          refine e_callV (As := [zR _, zI _]) (cb := 7) dX6_countRowsLeft_22 moX6_isOther mvX6_isOther mlX6_23 (by decide) rfl (show zK h (nS s + 6) = 7 + 1 from o1) rfl (Nat.le_of_ble_eq_true rfl) ⟨by decide, by decide, by decide, by decide⟩ (c_X6_isOther hl hT hC i (by omega) (by omega)) (fun E h1 q => by cases q.1) (fun v h9 q => ?_)
          obtain ⟨e1, e2⟩ := q; cases e1; rw [e2]; clear e2 h9
          refine e_if_eq (tgt := 31) dX6_countRowsLeft_25 (by decide) (by omega) (fun c25 => ?_) (fun c25 => ?_)
          · skip
            try simp only [b2_0, b2_n0] at c25
            refine e_iinc dX6_countRowsLeft_31 (by decide) rfl rfl rfl rfl ?_
            refine e_goto (tgt := 4) dX6_countRowsLeft_34 (by decide) ?_
            refine ih4 _ _ (by omega) (by omega) (by omega) ?_
            rw [sg_s i0, ← hv]
            first
              | (rw [ei, b2_t (by omega)]; done)
              | (rw [ei, b2_f (by omega), Int.add_zero]; done)
          · skip
            try simp only [b2_0, b2_n0] at c25
            refine e_iinc dX6_countRowsLeft_28 (by decide) rfl rfl rfl rfl ?_
            refine e_iinc dX6_countRowsLeft_31 (by decide) rfl rfl rfl rfl ?_
            refine e_goto (tgt := 4) dX6_countRowsLeft_34 (by decide) ?_
            refine ih4 _ _ (by omega) (by omega) (by omega) ?_
            rw [sg_s i0, ← hv]
            first
              | (rw [ei, b2_t (by omega)]; done)
              | (rw [ei, b2_f (by omega), Int.add_zero]; done)
  exact lp4 9 0 0 (by decide) (by decide) (by decide) rfl
