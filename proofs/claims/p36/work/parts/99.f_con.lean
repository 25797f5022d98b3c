set_option maxHeartbeats 4000000 in
set_option maxRecDepth 100000 in
theorem c_X5_isTrueN {l : Launch} (hl : l.stackTraces = false) {S : S9} {h : zH} {s : Int} (hV : RV S h s) (hb : ∀ w, S 11 w = 0 ∨ S 11 w = 1) (hc : RCo h s (screenAt S s)) (h31 : S 31 s ≠ 1)  : zC l MX5_isTrue [zR (some (nS s))] h (fun o h' => o = .inl (some (zI 1)) ∧ h' = h) := by
  refine zC_of hl rfl rfl (by decide) rfl rfl (Nat.le_of_ble_eq_true rfl) ?_
  obtain ⟨⟨s0, s1⟩, hN, hI, hO, hSo, hP, hWs⟩ := id hV
  obtain ⟨o1, o2, o3, o4, o5, o6, o7, o8, o9⟩ := id hSo
  refine e_aload_n dX5_isTrue_0 rfl rfl ?_
  refine e_callV (As := []) (cb := 6) dX5_isTrue_1 moX5_isPainted mvX5_isPainted mlX5_87 (by decide) rfl (show zK _ (nS s) = 6 + 1 from o1) rfl (Nat.le_of_ble_eq_true rfl) ⟨by decide, by decide, by decide, by decide⟩ (c_X5_isPainted hl hV hb hc) (fun E h1 q => by cases q.1) (fun v h9 q => ?_)
  obtain ⟨e1, e2⟩ := q; cases e1; rw [e2]; clear e2 h9
  rw [b2_t (sg_z _ (fun i _ _ => b2_f (fun z => z rfl)))]
  refine e_if_eq (tgt := 28) dX5_isTrue_4 (by decide) (by omega) (fun c4 => ?_) (fun c4 => ?_)
  · skip
    try simp only [b2_0, b2_n0] at c4
    exfalso; omega
  · skip
    try simp only [b2_0, b2_n0] at c4
    refine e_aload_n dX5_isTrue_7 rfl rfl ?_
    refine e_getR dX5_isTrue_8 flX5_91 rfl (show zK _ (nS s) = 6 + 1 from o1) o8 ?_
    refine e_ifnull (tgt := 24) dX5_isTrue_11 (by decide) (fun c11 => ?_) (fun r11 c11 => ?_)
    · skip
      refine e_iconst dX5_isTrue_24 ?_
      refine e_goto (tgt := 29) dX5_isTrue_25 (by decide) ?_
      refine e_iret dX5_isTrue_29 rfl (by first | exact Or.inl rfl | exact Or.inr rfl | assumption | exact b2_01) (by decide) (by decide) ?_
      exact ⟨rfl, rfl⟩
    · skip
      exact absurd (recR_some c11).1 h31
set_option maxHeartbeats 4000000 in
set_option maxRecDepth 100000 in
theorem c_X8_isConsistent {l : Launch} (hl : l.stackTraces = false) {S : S9} {h : zH} {B : Int} (hR : RC S h) (hI : II S B)  : zC l MX8_isConsistent [zR (some 2)] h (fun o h' => o = .inl (some (zI 1)) ∧ RC S h' ∧ ∀ m, m < 1000 → eqAt m h h') := by
  refine zC_of hl rfl rfl (by decide) rfl rfl (Nat.le_of_ble_eq_true rfl) ?_
  have hN : IN S := hI.1.1
  have hIW : IW S := hI.1.2.1
  have hIO : IO S := hI.1.2.2.1
  have hIC : IC S := hI.1.2.2.2.1
  have hIK : IK S := hI.1.2.2.2.2
  have hB3 := hI.2.2.1
  have hbt := hI.2.2.2.2
  obtain ⟨⟨⟨p1, p2, p3, p4, p5⟩, ⟨y1, y2, y3⟩, ⟨x1, x2, x3⟩, v1, v2, v3⟩, hRs, hRc, hRf⟩ := id hR
  obtain ⟨n1, n2, n3, n4, n5⟩ := id hN
  refine e_aload_n dX8_isConsistent_0 rfl rfl ?_
  refine e_getR dX8_isConsistent_1 flX8_11 rfl (show zK _ 2 = 9 + 1 from p1) p2 ?_
  refine e_astore_n dX8_isConsistent_4 rfl (by decide) rfl rfl ?_
  refine e_aload_n dX8_isConsistent_5 rfl rfl ?_
  refine e_alen dX8_isConsistent_6 (t := 5) y1 y2 ?_
  refine e_istore_n dX8_isConsistent_7 rfl (by decide) rfl rfl ?_
  refine e_iconst dX8_isConsistent_8 ?_
  refine e_istore_n dX8_isConsistent_9 rfl (by decide) rfl rfl ?_
  have lp10 : ∀ (d : Nat) (i : Int) (h1 : zH), (4 - i).toNat < d → 0 ≤ i → i ≤ 4 → RC S h1 → (∀ m, m < 1000 → eqAt m h h1) → AW l MX8_isConsistent (fun o h' => o = .inl (some (zI 1)) ∧ RC S h' ∧ ∀ m, m < 1000 → eqAt m h h') 0 0 10 [zR (some 2), zR (some 3), zI 4, zI i, zX] [] h1 := by
    intro d
    induction d with
    | zero => intro i h1 hd i0 i1 hR1 hF1; exact absurd hd (by omega)
    | succ d ih =>
      have ih10 := ih
      intro i h1 hd i0 i1 hR1 hF1
      refine e_iload_n dX8_isConsistent_10 rfl rfl ?_
      refine e_iload_n dX8_isConsistent_11 rfl rfl ?_
      refine e_icmp_ge (tgt := 41) dX8_isConsistent_12 (by decide) (by omega) (by omega) (fun c12 => ?_) (fun c12 => ?_)
      · skip
        refine e_aload_n dX8_isConsistent_41 rfl rfl ?_
        refine e_getR dX8_isConsistent_42 flX8_17 rfl (show zK _ 2 = 9 + 1 from hR1.1.1.1) hR1.1.1.2.2.1 ?_
        refine e_astore_n dX8_isConsistent_45 rfl (by decide) rfl rfl ?_
        refine e_aload_n dX8_isConsistent_46 rfl rfl ?_
        refine e_alen dX8_isConsistent_47 (t := 4) hR1.1.2.2.1.1 hR1.1.2.2.1.2.1 ?_
        refine e_istore_n dX8_isConsistent_48 rfl (by decide) rfl rfl ?_
        refine e_iconst dX8_isConsistent_49 ?_
        refine e_istore_n dX8_isConsistent_50 rfl (by decide) rfl rfl ?_
        have lp51 : ∀ (d : Nat) (j : Int), (6 - j).toNat < d → 0 ≤ j → j ≤ 6 → AW l MX8_isConsistent (fun o h' => o = .inl (some (zI 1)) ∧ RC S h' ∧ ∀ m, m < 1000 → eqAt m h h') 0 0 51 [zR (some 2), zR (some 4), zI 6, zI j, zX] [] h1 := by
          intro d
          induction d with
          | zero => intro j hd j0 j1; exact absurd hd (by omega)
          | succ d ih =>
            have ih51 := ih
            intro j hd j0 j1
            refine e_iload_n dX8_isConsistent_51 rfl rfl ?_
            refine e_iload_n dX8_isConsistent_52 rfl rfl ?_
            refine e_icmp_ge (tgt := 88) dX8_isConsistent_53 (by decide) (by omega) (by omega) (fun c53 => ?_) (fun c53 => ?_)
            · skip
              refine e_iconst dX8_isConsistent_88 ?_
              refine e_iret dX8_isConsistent_89 rfl (by first | exact Or.inl rfl | exact Or.inr rfl | assumption | exact b2_01) (by decide) (by decide) ?_
              exact ⟨rfl, hR1, hF1⟩
            · skip
              refine e_aload_n dX8_isConsistent_56 rfl rfl ?_
              refine e_iload_n dX8_isConsistent_57 rfl rfl ?_
              refine e_aald dX8_isConsistent_58 (t := 4) hR1.1.2.2.1.1 (by decide) (by decide) j0 (by rw [hR1.1.2.2.1.2.1]; omega) (hR1.1.2.2.1.2.2 j j0 (by omega)) ?_
              refine e_astore dX8_isConsistent_59 (by decide) rfl rfl ?_
              refine e_aload dX8_isConsistent_61 rfl ?_
              refine e_ifnull (tgt := 82) dX8_isConsistent_63 (by decide) (fun c63 => ?_) (fun r63 c63 => ?_)
              · skip
                refine e_iinc dX8_isConsistent_82 (by decide) rfl rfl rfl rfl ?_
                refine e_goto (tgt := 51) dX8_isConsistent_85 (by decide) ?_
                refine e_mask [true, true, true, true, false] ?_
                exact ih51 _ (by omega) (by omega) (by omega)
              · skip
                obtain ⟨z9, z8⟩ := ses_some c63
                subst z8
                rw [if_pos z9]
                obtain ⟨hCl, -⟩ := hR1.2.2.1 j ⟨j0, z9⟩
                have hm := hB3.2.2 j j0 z9
                refine e_aload dX8_isConsistent_66 rfl ?_
                refine e_getI dX8_isConsistent_68 flX8_146 rfl (show zK _ (nC j) = 2 + 1 from hCl.1) hCl.2.2.2.2.2.1 (fun r68 => ?_)
                refine e_iconst dX8_isConsistent_71 ?_
                refine e_bipush dX8_isConsistent_72 (by decide) ?_
                refine e_callS (As := [zI _, zI _, zI _]) dX8_isConsistent_74 moX8_isWithin msX8_isWithin mlX8_116 rfl (Nat.le_of_ble_eq_true rfl) ⟨by decide, by decide, by decide, by decide⟩ (c_X8_isWithin hl (S 37 j) 0 60 (by omega) (by decide) (by decide)) (fun E h1 q => by cases q.1) (fun v h9 q => ?_)
                obtain ⟨e1, e2⟩ := q; cases e1; rw [e2]; clear e2 h9
                refine e_if_ne (tgt := 82) dX8_isConsistent_77 (by decide) b2_in (fun c77 => ?_) (fun c77 => ?_)
                · skip
                  try simp only [b2_0, b2_n0] at c77
                  refine e_iinc dX8_isConsistent_82 (by decide) rfl rfl rfl rfl ?_
                  refine e_goto (tgt := 51) dX8_isConsistent_85 (by decide) ?_
                  refine e_mask [true, true, true, true, false] ?_
                  exact ih51 _ (by omega) (by omega) (by omega)
                · skip
                  try simp only [b2_0, b2_n0] at c77
                  exfalso; omega
        refine e_mask [true, true, true, true, false] ?_
        exact lp51 7 0 (by decide) (by decide) (by decide)
      · skip
        refine e_aload_n dX8_isConsistent_15 rfl rfl ?_
        refine e_iload_n dX8_isConsistent_16 rfl rfl ?_
        refine e_aald dX8_isConsistent_17 (t := 5) ((hF1 3 (by decide)).1.trans y1) (by decide) (by decide) i0 (by rw [(hF1 3 (by decide)).2.1, y2]; omega) (((hF1 3 (by decide)).2.2.2.2.2.1 i).trans (y3 i i0 (by omega))) ?_
        refine e_astore dX8_isConsistent_18 (by decide) rfl rfl ?_
        refine e_aload dX8_isConsistent_20 rfl ?_
        refine e_ifnull (tgt := 35) dX8_isConsistent_22 (by decide) (fun c22 => ?_) (fun r22 c22 => ?_)
        · skip
          have hR9 := hR1
          have hF9 := hF1
          refine e_iinc dX8_isConsistent_35 (by decide) rfl rfl rfl rfl ?_
          refine e_goto (tgt := 10) dX8_isConsistent_38 (by decide) ?_
          refine e_mask [true, true, true, true, false] ?_
          exact ih10 _ _ (by omega) (by omega) (by omega) hR9 hF9
        · skip
          obtain ⟨z9, z8⟩ := ses_some c22
          subst z8
          rw [if_pos z9]
          have hsi : isS S i := ⟨i0, z9⟩
          have i4 : i < 4 := by omega
          obtain ⟨hV, -, hC, -, -, -, hRr, hRr0⟩ := hR1.2.1 i hsi
          have hb5 := hB3.2.1 i i0 i4
          have hcon : zC l MX5_isTrue [zR (some (nS i))] h1 (fun o h' => o = .inl (some (zI 1)) ∧ RC S h' ∧ ∀ m, m < 1000 → eqAt m h1 h') := by
            by_cases z : S 31 i = 1
            · refine zC_mono (c_X5_isTrue hl hV (hbt 11 (by decide)) hC hb5.2.2.1 hb5.2.2.2.1 hb5.2.2.2.2.1 hb5.2.2.2.2.2 hRr) (fun o h' q => ?_)
              exact ⟨q.1, RC_rec (IJ_II hI) hI.1 hsi i4 (fun _ _ _ => rfl) (fun _ _ _ => rfl) (fun m _ m1 => q.2.2 m (m1 14 (by decide) (by decide))) (RSo_at (q.2.2 _ (by omega)) hV.2.2.2.2.1) q.2.1 (fun y => absurd z y) hR1, fun m hm => q.2.2 m (by unfold nS; omega)⟩
            · refine zC_mono (c_X5_isTrueN hl hV (hbt 11 (by decide)) hC z) (fun o h' q => ?_)
              rw [q.2]
              exact ⟨q.1, hR1, fun _ _ => eqAt_rf⟩
          refine e_aload dX8_isConsistent_25 rfl ?_
          refine e_callV (As := []) (cb := 6) dX8_isConsistent_27 moX5_isTrue mvX5_isTrue mlX8_325 (by decide) rfl (show zK h1 (nS i) = 6 + 1 from hV.2.2.2.2.1.1) rfl (Nat.le_of_ble_eq_true rfl) ⟨by decide, by decide, by decide, by decide⟩ hcon (fun E h1 q => by cases q.1) (fun v h1 q => ?_)
          obtain ⟨e1, hR9, hF8⟩ := q; cases e1
          rename zH => h3
          have hF9 : ∀ m, m < 1000 → eqAt m h h3 := fun m hm => eqAt_tr (hF1 m hm) (hF8 m hm)
          refine e_if_ne (tgt := 35) dX8_isConsistent_30 (by decide) (by omega) (fun c30 => ?_) (fun c30 => ?_)
          · skip
            try simp only [b2_0, b2_n0] at c30
            refine e_iinc dX8_isConsistent_35 (by decide) rfl rfl rfl rfl ?_
            refine e_goto (tgt := 10) dX8_isConsistent_38 (by decide) ?_
            refine e_mask [true, true, true, true, false] ?_
            exact ih10 _ _ (by omega) (by omega) (by omega) hR9 hF9
          · skip
            try simp only [b2_0, b2_n0] at c30
            exfalso; omega
  exact lp10 5 0 h (by decide) (by decide) (by decide) hR (fun _ _ => eqAt_rf)
set_option maxHeartbeats 4000000 in
set_option maxRecDepth 100000 in
theorem c_X8_init {l : Launch} (hl : l.stackTraces = false) {h : zH} (k2 : zK h 2 = 10) (k3 : zK h 3 = 0) (k4 : zK h 4 = 0) (k5 : zK h 5 = 0)  : zC l MX8_init [zR (some 2)] h (fun o h' => o = .inl none ∧ h' = sl (sr (nw (sr (nw (sr (nw h 3 (100 + 5) 4) 900 2 (some 3)) 4 (100 + 4) 6) 901 2 (some 4)) 5 (100 + 1) 48) 902 2 (some 5)) 903 2 0) := by
  refine zC_of hl rfl rfl (by decide) rfl rfl (Nat.le_of_ble_eq_true rfl) ?_
  refine e_aload_n dX8_init_0 rfl rfl ?_
  refine e_objInit dX8_init_1 mlX8_1 tw_oiI tw_oiC (by decide) (by decide) ?_
  refine e_aload_n dX8_init_4 rfl rfl ?_
  refine e_iconst dX8_init_5 ?_
  refine e_newq 3 5 4 dX8_init_6 (by decide) (by decide) rfl clX8_9 tw_ovS rfl (by decide) (by decide) (by simp [s_ff, s_fr, s_fn, s_rf, s_rr, s_rn, s_Kf, s_Kr, s_Kn, s_Nf, s_Nr, s_Nn, s_af, s_ar, s_an, k2, k3, k4, k5]) (by decide) (by decide) ?_
  refine e_putR dX8_init_9 flX8_11 (Or.inr ⟨rfl, rfl, rfl⟩) rfl (by simp [s_ff, s_fr, s_fn, s_rf, s_rr, s_rn, s_Kf, s_Kr, s_Kn, s_Nf, s_Nr, s_Nn, s_af, s_ar, s_an, k2, k3, k4, k5]) ?_
  refine e_aload_n dX8_init_12 rfl rfl ?_
  refine e_bipush dX8_init_13 (by decide) ?_
  refine e_newq 4 4 6 dX8_init_15 (by decide) (by decide) rfl clX8_15 tw_ovC rfl (by decide) (by decide) (by simp [s_ff, s_fr, s_fn, s_rf, s_rr, s_rn, s_Kf, s_Kr, s_Kn, s_Nf, s_Nr, s_Nn, s_af, s_ar, s_an, k2, k3, k4, k5]) (by decide) (by decide) ?_
  refine e_putR dX8_init_18 flX8_17 (Or.inr ⟨rfl, rfl, rfl⟩) rfl (by simp [s_ff, s_fr, s_fn, s_rf, s_rr, s_rn, s_Kf, s_Kr, s_Kn, s_Nf, s_Nr, s_Nn, s_af, s_ar, s_an, k2, k3, k4, k5]) ?_
  refine e_aload_n dX8_init_21 rfl rfl ?_
  refine e_bipush dX8_init_22 (by decide) ?_
  refine e_newa 5 1 48 dX8_init_24 (by decide) rfl tw_arrBool rfl (by decide) (by decide) (by simp [s_ff, s_fr, s_fn, s_rf, s_rr, s_rn, s_Kf, s_Kr, s_Kn, s_Nf, s_Nr, s_Nn, s_af, s_ar, s_an, k2, k3, k4, k5]) (by decide) (by decide) ?_
  refine e_putR dX8_init_26 flX8_21 (Or.inr ⟨rfl, rfl, rfl⟩) rfl (by simp [s_ff, s_fr, s_fn, s_rf, s_rr, s_rn, s_Kf, s_Kr, s_Kn, s_Nf, s_Nr, s_Nn, s_af, s_ar, s_an, k2, k3, k4, k5]) ?_
  refine e_aload_n dX8_init_29 rfl rfl ?_
  refine e_lconst (z := 0) dX8_init_30 (by decide) ?_
  refine e_putL dX8_init_31 flX8_25 (Or.inl rfl) rfl (by simp [s_ff, s_fr, s_fn, s_rf, s_rr, s_rn, s_Kf, s_Kr, s_Kn, s_Nf, s_Nr, s_Nn, s_af, s_ar, s_an, k2, k3, k4, k5]) ?_
  refine e_vret dX8_init_34 rfl (by decide) (by decide) ?_
  exact ⟨rfl, rfl⟩
