set_option maxHeartbeats 4000000 in
set_option maxRecDepth 100000 in
theorem c_X6_nextRow {l : Launch} (hl : l.stackTraces = false) {S : S9} {h : zH} {s : Int} (hT : RT S h s) (hC : RCo h s (screenAt S s)) (hb : ∀ r, S 29 r = 0 ∨ S 29 r = 1) (hp : 0 < cntL S s)  : zC l MX6_nextRow [zR (some (nS s + 6)), zR (some (nS s + 4))] h (fun o h' => o = .inl (some (zI (rowN S s))) ∧ h' = h ∧ 0 ≤ rowN S s ∧ rowN S s < 8) := by
  refine zC_of hl rfl rfl (by decide) rfl rfl (Nat.le_of_ble_eq_true rfl) ?_
  obtain ⟨⟨o1, o2, o3, o4, o5⟩, ⟨t1, t2, t3⟩, u1, u2, u3⟩ := id hT
  obtain ⟨q1, q2, q3⟩ := id hC
  refine e_iconst dX6_nextRow_0 ?_
  refine e_istore_n dX6_nextRow_1 rfl (by decide) rfl rfl ?_
  have lp2 : ∀ (d : Nat) (i : Int), (8 - i).toNat < d → 0 ≤ i → i ≤ 8 → (∀ r, 0 ≤ r → r < i → S 29 (8 * s + r) = 1) → frsN S s (8 - i).toNat = frsN S s 8 → AW l MX6_nextRow (fun o h' => o = .inl (some (zI (rowN S s))) ∧ h' = h ∧ 0 ≤ rowN S s ∧ rowN S s < 8) 0 0 2 [zR (some (nS s + 6)), zR (some (nS s + 4)), zI i] [] h := by
    intro d
    induction d with
    | zero => intro i hd i0 i1 hr hi; exact absurd hd (by omega)
    | succ d ih =>
      have ih2 := ih
      intro i hd i0 i1 hr hi
      have o01 := otN_01 (S := S) (s := s) (r := i) 12
      have hbi := hb (8 * s + i)
      have ei : isL S s i = b2 (¬ S 29 (8 * s + i) = 1 ∨ otN S s i 12 = 1) := isL_ot
      have ex : i < 8 → frsN S s (8 - i).toNat = if S 29 (8 * s + i) = 1 then frsN S s (8 - (i + 1)).toNat else i := fun z => by
        rw [show (8 - i).toNat = (8 - (i + 1)).toNat + 1 by omega, frsN_s, show 7 - (((8 - (i + 1)).toNat : Nat) : Int) = i by omega]
      refine e_iload_n dX6_nextRow_2 rfl rfl ?_
      refine e_bipush dX6_nextRow_3 (by decide) ?_
      refine e_icmp_ge (tgt := 25) dX6_nextRow_5 (by decide) (by omega) (by omega) (fun c5 => ?_) (fun c5 => ?_)
      · skip
        have ef : frsN S s 8 = -1 := by rw [← hi, show (8 - i).toNat = 0 by omega]; rfl
        refine e_iconst dX6_nextRow_25 ?_
        refine e_istore_n dX6_nextRow_26 rfl (by decide) rfl rfl ?_
        have lp27 : ∀ (d : Nat) (i : Int), (8 - i).toNat < d → 0 ≤ i → i ≤ 8 → fndN S s (8 - i).toNat = fndN S s 8 → AW l MX6_nextRow (fun o h' => o = .inl (some (zI (rowN S s))) ∧ h' = h ∧ 0 ≤ rowN S s ∧ rowN S s < 8) 0 0 27 [zR (some (nS s + 6)), zR (some (nS s + 4)), zI i] [] h := by
          intro d
          induction d with
          | zero => intro i hd i0 i1 hj; exact absurd hd (by omega)
          | succ d ih =>
            have ih27 := ih
            intro i hd i0 i1 hj
            have o01 := otN_01 (S := S) (s := s) (r := i) 12
            have hbi := hb (8 * s + i)
            have ei : isL S s i = b2 (¬ S 29 (8 * s + i) = 1 ∨ otN S s i 12 = 1) := isL_ot
            have ex : i < 8 → fndN S s (8 - i).toNat = if isL S s i = 1 then i else fndN S s (8 - (i + 1)).toNat := fun z => by
              rw [show (8 - i).toNat = (8 - (i + 1)).toNat + 1 by omega, fndN_s, show 7 - (((8 - (i + 1)).toNat : Nat) : Int) = i by omega]
            refine e_iload_n dX6_nextRow_27 rfl rfl ?_
            refine e_bipush dX6_nextRow_28 (by decide) ?_
            refine e_icmp_ge (tgt := 50) dX6_nextRow_30 (by decide) (by omega) (by omega) (fun c30 => ?_) (fun c30 => ?_)
            · skip
              refine e_iconst dX6_nextRow_50 ?_
              refine e_iret dX6_nextRow_51 rfl trivial (by decide) (by decide) ?_
              exfalso
              have e9 : fndN S s 8 < 0 := by rw [← hj, show (8 - i).toNat = 0 by omega]; show (-1 : Int) < 0; decide
              have e8 := fndN_neg (S := S) (s := s) 8 (by decide) e9
              have e7 : cntL S s = sg (fun _ => 0) 8 := sg_eq 8 (fun r r0 r1 => e8 r (by omega) (by omega))
              have e6 : sg (fun _ => 0) 8 = 0 := rfl
              omega
            · skip
              refine e_aload_n dX6_nextRow_33 rfl rfl ?_
              refine e_aload_n dX6_nextRow_34 rfl rfl ?_
              refine e_iload_n dX6_nextRow_35 rfl rfl ?_
              refine e_callV (As := [zR _, zI _]) (cb := 7) dX6_nextRow_36 moX6_isOther mvX6_isOther mlX6_23 (by decide) rfl (show zK h (nS s + 6) = 7 + 1 from o1) rfl (Nat.le_of_ble_eq_true rfl) ⟨by decide, by decide, by decide, by decide⟩ (c_X6_isOther hl hT hC i (by omega) (by omega)) (fun E h1 q => by cases q.1) (fun v h9 q => ?_)
              obtain ⟨e1, e2⟩ := q; cases e1; rw [e2]; clear e2 h9
              refine e_if_eq (tgt := 44) dX6_nextRow_39 (by decide) (by omega) (fun c39 => ?_) (fun c39 => ?_)
              · skip
                try simp only [b2_0, b2_n0] at c39
                refine e_iinc dX6_nextRow_44 (by decide) rfl rfl rfl rfl ?_
                refine e_goto (tgt := 27) dX6_nextRow_47 (by decide) ?_
                have hri := hr i (by omega) (by omega)
                exact ih27 _ (by omega) (by omega) (by omega) (by rw [ex (by omega), if_neg (by rw [ei, b2_f (by omega)]; decide)] at hj; exact hj)
              · skip
                try simp only [b2_0, b2_n0] at c39
                refine e_iload_n dX6_nextRow_42 rfl rfl ?_
                refine e_iret dX6_nextRow_43 rfl trivial (by decide) (by decide) ?_
                rw [ex (by omega), if_pos (by rw [ei, b2_t (by omega)])] at hj
                have er : rowN S s = i := by unfold rowN; rw [if_neg (by omega)]; exact hj.symm
                exact ⟨zqe er.symm, rfl, by omega, by omega⟩
        exact lp27 9 0 (by decide) (by decide) (by decide) rfl
      · skip
        refine e_aload_n dX6_nextRow_8 rfl rfl ?_
        refine e_getR dX6_nextRow_9 flX6_15 rfl (show zK h (nS s + 6) = 7 + 1 from o1) o3 ?_
        refine e_iload_n dX6_nextRow_12 rfl rfl ?_
        refine e_zald dX6_nextRow_13 (show zK h (nS s + 8) = 101 from u1) (by omega) (by rw [u2]; omega) (u3 i (by omega) (by omega)) (fun r13 => ?_)
        refine e_if_ne (tgt := 19) dX6_nextRow_14 (by decide) (by omega) (fun c14 => ?_) (fun c14 => ?_)
        · skip
          try simp only [b2_0, b2_n0] at c14
          refine e_iinc dX6_nextRow_19 (by decide) rfl rfl rfl rfl ?_
          refine e_goto (tgt := 2) dX6_nextRow_22 (by decide) ?_
          exact ih2 _ (by omega) (by omega) (by omega) (fun r r0 r1 => by
            by_cases z : r = i
            · rw [z]; omega
            · exact hr r r0 (by omega)) (by rw [ex (by omega), if_pos (by omega)] at hi; exact hi)
        · skip
          try simp only [b2_0, b2_n0] at c14
          refine e_iload_n dX6_nextRow_17 rfl rfl ?_
          refine e_iret dX6_nextRow_18 rfl trivial (by decide) (by decide) ?_
          rw [ex (by omega), if_neg (by omega)] at hi
          have er : rowN S s = i := by unfold rowN; rw [if_pos (by omega)]; exact hi.symm
          exact ⟨zqe er.symm, rfl, by omega, by omega⟩
  exact lp2 9 0 (by decide) (by decide) (by decide) (fun r r0 r1 => by omega) rfl
set_option maxHeartbeats 4000000 in
set_option maxRecDepth 100000 in
theorem c_X6_advance {l : Launch} (hl : l.stackTraces = false) {S : S9} {h : zH} {s : Int} (hT : RT S h s) (hC : RCo h s (screenAt S s)) (hb : ∀ r, S 29 r = 0 ∨ S 29 r = 1) (hr : S 26 s = 1) (hB : 0 ≤ S 28 s ∧ S 28 s ≤ 1000000000)  : zC l MX6_advance [zR (some (nS s + 6)), zR (some (nS s + 4))] h (fun o h' => o = .inl (some (zI (b2 (cntL S s ≤ 2)))) ∧ RT (rowsS S s) h' s ∧ ∀ m, m ≠ nS s + 6 → m ≠ nS s + 7 → m ≠ nS s + 8 → eqAt m h h') := by
  refine zC_of hl rfl rfl (by decide) rfl rfl (Nat.le_of_ble_eq_true rfl) ?_
  obtain ⟨⟨o1, o2, o3, o4, o5⟩, ⟨t1, t2, t3⟩, u1, u2, u3⟩ := id hT
  obtain ⟨q1, q2, q3⟩ := id hC
  have cl := cntL_in (S := S) (s := s)
  refine e_aload_n dX6_advance_0 rfl rfl ?_
  refine e_aload_n dX6_advance_1 rfl rfl ?_
  refine e_callV (As := [zR _]) (cb := 7) dX6_advance_2 moX6_countRowsLeft mvX6_countRowsLeft mlX6_27 (by decide) rfl (show zK h (nS s + 6) = 7 + 1 from o1) rfl (Nat.le_of_ble_eq_true rfl) ⟨by decide, by decide, by decide, by decide⟩ (c_X6_countRowsLeft hl hT hC hb) (fun E h1 q => by cases q.1) (fun v h9 q => ?_)
  obtain ⟨e1, e2⟩ := q; cases e1; rw [e2]; clear e2 h9
  refine e_iconst dX6_advance_5 ?_
  refine e_icmp_gt (tgt := 26) dX6_advance_6 (by decide) (by omega) (by omega) (fun c6 => ?_) (fun c6 => ?_)
  · skip
    refine e_aload_n dX6_advance_26 rfl rfl ?_
    refine e_aload_n dX6_advance_27 rfl rfl ?_
    refine e_callV (As := [zR _]) (cb := 7) dX6_advance_28 moX6_nextRow mvX6_nextRow mlX6_35 (by decide) rfl (show zK h (nS s + 6) = 7 + 1 from o1) rfl (Nat.le_of_ble_eq_true rfl) ⟨by decide, by decide, by decide, by decide⟩ (c_X6_nextRow hl hT hC hb (by omega)) (fun E h1 q => by cases q.1) (fun v h9 q => ?_)
    obtain ⟨e1, e2, r0, r1⟩ := q; cases e1; rw [e2]; clear e2 h9
    refine e_istore_n dX6_advance_31 rfl (by decide) rfl rfl ?_
    refine e_aload_n dX6_advance_32 rfl rfl ?_
    refine e_getR dX6_advance_33 flX6_15 rfl (by assumption) (by assumption) ?_
    refine e_iload_n dX6_advance_36 rfl rfl ?_
    refine e_iconst dX6_advance_37 ?_
    refine e_zast dX6_advance_38 (show zK h (nS s + 8) = 101 from u1) (by omega) (by rw [u2]; omega) (by first | exact Or.inl rfl | exact Or.inr rfl | assumption) ?_
    refine e_aload_n dX6_advance_39 rfl rfl ?_
    refine e_iload_n dX6_advance_40 rfl rfl ?_
    refine e_bipush dX6_advance_41 (by decide) ?_
    refine e_imul dX6_advance_43 ?_
    refine e_aload_n dX6_advance_44 rfl rfl ?_
    refine e_getR dX6_advance_45 flX6_9 rfl (by assumption) (by assumption) ?_
    refine e_iload_n dX6_advance_48 rfl rfl ?_
    refine e_bipush dX6_advance_49 (by decide) ?_
    refine e_imul dX6_advance_51 ?_
    refine e_bipush dX6_advance_52 (by decide) ?_
    refine e_copyi dX6_advance_54 mlX6_38 tw_acN tw_acS tw_acI (show zK h (nS s + 4) = 100 from q1) (show zK h (nS s + 7) = 100 from t1) (by omega) (by omega) (by decide) (show _ ≤ zN h (nS s + 4) by rw [q2]; omega) (show _ ≤ zN h (nS s + 7) by rw [t2]; omega) (by decide) (by decide) (by decide) ?_
    refine e_iconst dX6_advance_57 ?_
    refine e_iret dX6_advance_58 rfl (by first | exact Or.inl rfl | exact Or.inr rfl | assumption | exact b2_01) (by decide) (by decide) ?_
    have er : rowsS S s = cpyI (up (up S 27 s 0) 29 (8 * s + rowN S s) 1) s (rowN S s) 12 := by
      unfold rowsS
      rw [if_neg (by omega), if_pos hr]
    refine ⟨zqe (b2_f (by omega)).symm, ?_, fun m m1 m2 m3 => eqAt_tr (eqAt_sa m3) (eqAt_saw m2)⟩
    rw [er]
    exact RT_row hT hC r0 r1
  · skip
    refine e_aload_n dX6_advance_9 rfl rfl ?_
    refine e_iconst dX6_advance_10 ?_
    refine e_putI dX6_advance_11 flX6_19 (Or.inl rfl) (by first | exact Or.inl rfl | exact Or.inr rfl | assumption) (show zK h (nS s + 6) = 7 + 1 from o1) (by omega) ?_
    refine e_aload_n dX6_advance_14 rfl rfl ?_
    refine e_dup dX6_advance_15 rfl ?_
    refine e_getI dX6_advance_16 flX6_31 rfl (show zK h (nS s + 6) = 7 + 1 from o1) o5 (fun r16 => ?_)
    refine e_iconst dX6_advance_19 ?_
    refine e_iadd dX6_advance_20 ?_
    refine e_putI dX6_advance_21 flX6_31 (Or.inl rfl) trivial (show zK h (nS s + 6) = 7 + 1 from o1) (by omega) ?_
    refine e_iconst dX6_advance_24 ?_
    refine e_iret dX6_advance_25 rfl (by first | exact Or.inl rfl | exact Or.inr rfl | assumption | exact b2_01) (by decide) (by decide) ?_
    have er : rowsS S s = up (up (up S 27 s 1) 26 s 0) 28 s (S 28 s + 1) := if_pos ⟨hr, by omega⟩
    refine ⟨zqe (b2_t (by omega)).symm, ?_, fun m m1 m2 m3 => eqAt_tr (eqAt_sf m1) (eqAt_sf m1)⟩
    rw [er]
    exact RT_end hT
