set_option maxHeartbeats 4000000 in
set_option maxRecDepth 100000 in
theorem c_X8_runLine {l : Launch} (hl : l.stackTraces = false) {S : S9} {h : zH} (hR : RC S h) (hI : IJ S) (hMo : IMo S)  : zC l MX8_runLine [zR (some 2)] h (fun o h' => o = .inl (some (zI (24 - (lineS (monI S (S 2 0)) 24 24).2))) ∧ RC (lineS (monI S (S 2 0)) 24 24).1 h' ∧ FL h h') := by
  refine zC_of hl rfl rfl (by decide) rfl rfl (Nat.le_of_ble_eq_true rfl) ?_
  obtain ⟨⟨⟨p1, p2, p3, p4, p5⟩, ⟨y1, y2, y3⟩, ⟨x1, x2, x3⟩, v1, v2, v3⟩, hRs, hRc, hRf⟩ := id hR
  obtain ⟨n1, n2, n3, n4, n5⟩ := id hI.1.1
  refine e_aload_n dX8_runLine_0 rfl rfl ?_
  refine e_getR dX8_runLine_1 flX8_17 rfl (show zK _ 2 = 9 + 1 from p1) p3 ?_
  refine e_astore_n dX8_runLine_4 rfl (by decide) rfl rfl ?_
  refine e_aload_n dX8_runLine_5 rfl rfl ?_
  refine e_alen dX8_runLine_6 (t := 4) x1 x2 ?_
  refine e_istore_n dX8_runLine_7 rfl (by decide) rfl rfl ?_
  refine e_iconst dX8_runLine_8 ?_
  refine e_istore_n dX8_runLine_9 rfl (by decide) rfl rfl ?_
  have lp10 : ∀ (d : Nat) (i : Int) (h1 : zH), (6 - i).toNat < d → 0 ≤ i → i ≤ 6 → RC (monI S (mn i (S 2 0))) h1 → AF (monI S (mn i (S 2 0))) h1 (mn i (S 2 0)) → FL h h1 → AW l MX8_runLine (fun o h' => o = .inl (some (zI (24 - (lineS (monI S (S 2 0)) 24 24).2))) ∧ RC (lineS (monI S (S 2 0)) 24 24).1 h' ∧ FL h h') 0 0 10 [zR (some 2), zR (some 4), zI 6, zI i, zX] [] h1 := by
    intro d
    induction d with
    | zero => intro i h1 hd i0 i1 hR1 hA1 hF1; exact absurd hd (by omega)
    | succ d ih =>
      have ih10 := ih
      intro i h1 hd i0 i1 hR1 hA1 hF1
      refine e_iload_n dX8_runLine_10 rfl rfl ?_
      refine e_iload_n dX8_runLine_11 rfl rfl ?_
      refine e_icmp_ge (tgt := 60) dX8_runLine_12 (by decide) (by omega) (by omega) (fun c12 => ?_) (fun c12 => ?_)
      · skip
        refine e_bipush dX8_runLine_60 (by decide) ?_
        refine e_istore_n dX8_runLine_62 rfl (by decide) rfl rfl ?_
        refine e_iconst dX8_runLine_63 ?_
        refine e_istore_n dX8_runLine_64 rfl (by decide) rfl rfl ?_
        have lp65 : ∀ (d : Nat) (k u : Int) (T : S9) (h2 : zH), (24 - k).toNat < d → 0 ≤ k → k ≤ 24 → 0 ≤ u → u ≤ 24 → IJ T → IMo T → T 2 0 = S 2 0 → RC T h2 → AF T h2 (S 2 0) → lineS (monI S (S 2 0)) 24 24 = lineS T u (24 - k).toNat → FL h h2 → AW l MX8_runLine (fun o h' => o = .inl (some (zI (24 - (lineS (monI S (S 2 0)) 24 24).2))) ∧ RC (lineS (monI S (S 2 0)) 24 24).1 h' ∧ FL h h') 0 0 65 [zR (some 2), zI u, zI k, zX, zX] [] h2 := by
          intro d
          induction d with
          | zero => intro k u T h2 hd k0 k1 u0 u1 hI2 hMo2 e2 hR2 hA2 hlin hF2; exact absurd hd (by omega)
          | succ d ih =>
            have ih65 := ih
            intro k u T h2 hd k0 k1 u0 u1 hI2 hMo2 e2 hR2 hA2 hlin hF2
            refine e_iload_n dX8_runLine_65 rfl rfl ?_
            refine e_bipush dX8_runLine_66 (by decide) ?_
            refine e_icmp_ge (tgt := 132) dX8_runLine_68 (by decide) (by omega) (by omega) (fun c68 => ?_) (fun c68 => ?_)
            · skip
              have hend : lineS (monI S (S 2 0)) 24 24 = (T, u) := by
                rw [hlin]
                first
                  | (rw [show (24 - k).toNat = 0 by omega]; rfl)
                  | (rw [show (24 - k).toNat = (24 - (k + 1)).toNat + 1 by omega]; exact hls)
              refine e_bipush dX8_runLine_132 (by decide) ?_
              refine e_iload_n dX8_runLine_134 rfl rfl ?_
              refine e_isub dX8_runLine_135 ?_
              refine e_iret dX8_runLine_136 rfl trivial (by decide) (by decide) ?_
              rw [hend]
              exact ⟨rfl, hR2, hF2⟩
            · skip
              refine e_aload_n dX8_runLine_71 rfl rfl ?_
              refine e_iload_n dX8_runLine_72 rfl rfl ?_
              refine e_callV (As := [zI _]) (cb := 9) dX8_runLine_73 moX8_richestServed mvX8_richestServed mlX8_367 (by decide) rfl (show zK h2 2 = 9 + 1 from hR2.1.1.1) rfl (Nat.le_of_ble_eq_true rfl) ⟨by decide, by decide, by decide, by decide⟩ (c_X8_richestServed hl hI2.1.1 hR2.1 hR2.2.2.1 (by rw [e2]; exact hA2) u (by omega)) (fun E h1 q => by cases q.1) (fun v h9 q => ?_)
              obtain ⟨e1, e9⟩ := q; cases e1; rw [e9]; clear e9 h9
              have hin := chN_in T u (T 2 0).toNat
              have hls := lineS_s T u (24 - (k + 1)).toNat
              refine e_astore_n dX8_runLine_76 rfl (by decide) rfl rfl ?_
              refine e_aload_n dX8_runLine_77 rfl rfl ?_
              refine e_ifnonnull (tgt := 84) dX8_runLine_78 (by decide) (fun r78 c78 => ?_) (fun c78 => ?_)
              · skip
                rw [c78]
                obtain ⟨y8, y9⟩ := cRef_some c78
                subst y9
                obtain ⟨c, hcc⟩ : ∃ c, c = chN T u (T 2 0).toNat := ⟨_, rfl⟩
                rw [← hcc] at hin hls y8 ⊢
                have hin := hin.resolve_left (by omega)
                have hcT : isC T c := ⟨y8, by omega⟩
                have hbo := bstC_ok hin.2.2.1
                have hmc := hMo2 c y8 hcT.2
                have hT1 := hI2.1.1.2.1
                obtain ⟨hCl, hCh⟩ := hR2.2.2.1 c hcT
                obtain ⟨q1, q2, q3, q4, q5, q6, q7, q8⟩ := id hCl
                have KI : zK h2 (nC c) = 2 + 1 := q1
                have hFd := (hA2 c y8 (by omega)).resolve_left (fun z => z.1 hin.2.2.1)
                obtain ⟨-, d4, d5, d7, d8, d9, d10⟩ := hFd
                have hcs := hI2.1.2.2.2.1 c y8 hcT.2
                have hpf := fst9_in (Pc T c) (Rc T c)
                have hpl : fstC T c < 96 := hin.2.2.1
                have hpg : 0 ≤ fstC T c := hpf.1
                have hsc := RC_scr (S := T) (c := c) hI2.1.2.2.2.1 hR2 hcT
                have KJ : zK h2 (nC c + 1) = 1 + 1 := hCh.1.1.1
                rw [if_neg (by omega)] at hls
                have hs37 : sendS T c 37 c = if (bstC T c).2.1 < T 37 c then T 37 c - (bstC T c).2.1 else 0 := sendS_37c
                have s35 : sendS T c 35 c = T 35 c := sendS_f (by decide)
                have s2 : sendS T c 2 0 = T 2 0 := sendS_f (by decide)
                refine e_aload_n dX8_runLine_84 rfl rfl ?_
                refine e_getR dX8_runLine_85 flX8_341 rfl KI q4 ?_
                refine e_astore dX8_runLine_88 (by decide) rfl rfl ?_
                refine e_iload_n dX8_runLine_90 rfl rfl ?_
                refine e_aload dX8_runLine_91 rfl ?_
                refine e_getI dX8_runLine_93 flX8_176 rfl KJ d5 (fun r93 => ?_)
                refine e_isub dX8_runLine_96 ?_
                refine e_istore_n dX8_runLine_97 rfl (by decide) rfl rfl ?_
                refine e_aload_n dX8_runLine_98 rfl rfl ?_
                refine e_aload_n dX8_runLine_99 rfl rfl ?_
                refine e_getI dX8_runLine_100 flX8_146 rfl KI q6 (fun r100 => ?_)
                refine e_aload dX8_runLine_103 rfl ?_
                refine e_getI dX8_runLine_105 flX8_176 rfl KJ d5 (fun r105 => ?_)
                refine e_isub dX8_runLine_108 ?_
                refine e_iconst dX8_runLine_109 ?_
                refine e_max dX8_runLine_110 mlX8_370 tw_mxS tw_maI tw_mxC (Nat.le_of_ble_eq_true rfl) (by decide) (by decide) (by decide) (by decide) (by omega) (by omega) ?_
                have hm9 : (if T 37 c - (bstC T c).2.1 < 0 then 0 else T 37 c - (bstC T c).2.1) = sendS T c 37 c := by
                  rw [hs37]
                  by_cases z : (bstC T c).2.1 < T 37 c
                  · rw [if_pos z, if_neg (by omega)]
                  · rw [if_neg z]
                    split <;> omega
                rw [hm9]
                have hz9 : zin (sendS T c 37 c) := by
                  rw [hs37]
                  split <;> omega
                refine e_G (fun hG9 => ?_)
                refine e_putI dX8_runLine_113 flX8_146 (Or.inl rfl) trivial KI hz9 ?_
                have fr4 : ∀ m, m ≠ nC c → eqAt m h2 (sf h2 204 (nC c) (sendS T c 37 c)) := fun m hm => eqAt_sf hm
                have hCh4 : RCh T (sf h2 204 (nC c) (sendS T c 37 c)) c := RCh_at (fr4 _ (by omega)) (fr4 _ (by omega)) (fr4 _ (by omega)) (fr4 _ (by omega)) hCh
                have hsc4 : RCo (sf h2 204 (nC c) (sendS T c 37 c)) (T 35 c) (screenAt T (T 35 c)) := RCo_at (fr4 _ (by unfold nS nC; omega)) hsc
                have hCl4 : RCl (sendS T c) (sf h2 204 (nC c) (sendS T c 37 c)) c := by
                  refine ⟨q1, q2.trans (by rw [s35]), q3, q4, ?_, z2_eq, ?_, ?_⟩
                  · exact (show z2 (zf h2) 204 (nC c) (sendS T c 37 c) 203 (nC c) = _ from z2_ni (by decide)).trans (q5.trans (sendS_f (by decide)).symm)
                  · exact (show z2 (zf h2) 204 (nC c) (sendS T c 37 c) 205 (nC c) = _ from z2_ni (by decide)).trans (q7.trans (sendS_f (by decide)).symm)
                  · exact (show z2 (zf h2) 204 (nC c) (sendS T c 37 c) 206 (nC c) = _ from z2_ni (by decide)).trans (q8.trans (sendS_f (by decide)).symm)
                refine e_aload dX8_runLine_116 rfl ?_
                refine e_callV (As := []) (cb := 1) dX8_runLine_118 moX0_apply mvX0_apply mlX8_373 (by decide) rfl (show zK _ (nC c + 1) = 1 + 1 from hCh4.1.1.1) rfl (Nat.le_of_ble_eq_true rfl) ⟨by decide, by decide, by decide, by decide⟩ (c_X0_applyZ hl hCh4 hsc4 (by omega) hcs.1 (by omega) (b := bstC T c) (p := fstC T c) hpg hpl hbo.1 hbo.2.1 d4 d7 d8 d9 d10 (fun q q0 q1 => by rw [← hCh.1.2.2.2 q q0 q1]; exact hG9.2.1 _ _) (fun q q0 q1 => by rw [← hsc.2.2 q q0 q1]; exact hG9.2.1 _ _)) (fun E h1 q => by cases q.1) (fun v h1 q => ?_)
                obtain ⟨e1, g1, g3⟩ := q; cases e1
                rename zH => h5
                have hCh5 : RCh (sendS T c) h5 c := RCh_agf (S := chgS T c (Pc T c) (Rc T c) (bstC T c) (fstC T c)) (by rw [s35, chgS_f (by decide)]) (fun j _ _ => chgS_pay) g1
                have hsc5 : RCo h5 (sendS T c 35 c) (screenAt (sendS T c) (sendS T c 35 c)) := by
                  rw [s35]
                  exact RCo_eq (fun p _ _ => screenAt_ag (fun f h5 h6 j => sendS_f (by omega)) _ p) (RCo_at (g3 _ (by unfold nS nC; omega) (by unfold nS nC; omega)) hsc4)
                refine e_aload dX8_runLine_121 rfl ?_
                refine e_callV (As := []) (cb := 1) dX8_runLine_123 moX0_find mvX0_find mlX8_345 (by decide) rfl (show zK h5 (nC c + 1) = 1 + 1 from hCh5.1.1.1) rfl (Nat.le_of_ble_eq_true rfl) ⟨by decide, by decide, by decide, by decide⟩ (c_X0_find hl hCh5 hsc5 (by omega) (by rw [s35]; exact hcs.1) (by rw [s35]; omega) y8) (fun E h1 q => by cases q.1) (fun v h1 q => ?_)
                obtain ⟨e1, g4, g5, g6⟩ := q; cases e1
                rename zH => h6
                have fr6 : ∀ m, (∀ k, k ≤ 4 → m ≠ nC c + k) → eqAt m h2 h6 := fun m hm => eqAt_tr (fr4 m (hm 0 (by decide))) (eqAt_tr (g3 m (hm 2 (by decide)) (hm 3 (by decide))) (g6 m (hm 1 (by decide)) (hm 4 (by decide))))
                obtain ⟨hR8, hA8⟩ := RC_send hI2 hcT (by omega) hR2 (by rw [e2]; exact hA2) (RCl_at (eqAt_tr (g3 _ (by omega) (by omega)) (g6 _ (by omega) (by omega))) hCl4) g4 g5 fr6
                refine e_iinc dX8_runLine_126 (by decide) rfl rfl rfl rfl ?_
                refine e_goto (tgt := 65) dX8_runLine_129 (by decide) ?_
                refine e_mask [true, true, true, false, false] ?_
                exact ih65 _ _ (sendS T c) _ (by omega) (by omega) (by omega) (by omega) (by omega) (IJ_send hI2) (IMo_send hcT (by omega) hMo2) (by rw [s2, e2]) hR8 (by rw [← e2]; exact hA8) (by rw [hlin, show (24 - k).toNat = (24 - (k + 1)).toNat + 1 by omega]; exact hls) (FL_tr hF2 (FL_c y8 (by omega) fr6))
              · skip
                have y8 := cRef_none c78
                rw [if_pos y8] at hls
                refine e_goto (tgt := 132) dX8_runLine_81 (by decide) ?_
                have hend : lineS (monI S (S 2 0)) 24 24 = (T, u) := by
                  rw [hlin]
                  first
                    | (rw [show (24 - k).toNat = 0 by omega]; rfl)
                    | (rw [show (24 - k).toNat = (24 - (k + 1)).toNat + 1 by omega]; exact hls)
                refine e_bipush dX8_runLine_132 (by decide) ?_
                refine e_iload_n dX8_runLine_134 rfl rfl ?_
                refine e_isub dX8_runLine_135 ?_
                refine e_iret dX8_runLine_136 rfl trivial (by decide) (by decide) ?_
                rw [hend]
                exact ⟨rfl, hR2, hF2⟩
        rw [mn_r (show S 2 0 ≤ i by omega)] at hR1 hA1
        refine e_mask [true, true, true, false, false] ?_
        exact lp65 25 0 24 _ _ (by decide) (by decide) (by decide) (by decide) (by decide) (IJ_mon hI) (IMo_mon n3 hMo) (monI_f (by decide)) hR1 hA1 rfl hF1
      · skip
        refine e_aload_n dX8_runLine_15 rfl rfl ?_
        refine e_iload_n dX8_runLine_16 rfl rfl ?_
        refine e_aald dX8_runLine_17 (t := 4) ((hF1 4 (fun c k _ _ _ => by unfold nC; omega)).1.trans x1) (by decide) (by decide) i0 (by rw [(hF1 4 (fun c k _ _ _ => by unfold nC; omega)).2.1, x2]; omega) (((hF1 4 (fun c k _ _ _ => by unfold nC; omega)).2.2.2.2.2.1 i).trans (x3 i i0 (by omega))) ?_
        refine e_astore dX8_runLine_18 (by decide) rfl rfl ?_
        refine e_aload dX8_runLine_20 rfl ?_
        refine e_ifnull (tgt := 54) dX8_runLine_22 (by decide) (fun c22 => ?_) (fun r22 c22 => ?_)
        · skip
          have z9 := ses_none2 c22
          have e8 : mn (i + 1) (S 2 0) = mn i (S 2 0) := by rw [mn_r (by omega), mn_r (by omega)]
          have hR9 : RC (monI S (mn (i + 1) (S 2 0))) h1 := by rw [e8]; exact hR1
          have hA9 : AF (monI S (mn (i + 1) (S 2 0))) h1 (mn (i + 1) (S 2 0)) := by rw [e8]; exact hA1
          have hF9 := hF1
          refine e_iinc dX8_runLine_54 (by decide) rfl rfl rfl rfl ?_
          refine e_goto (tgt := 10) dX8_runLine_57 (by decide) ?_
          refine e_mask [true, true, true, true, false] ?_
          exact ih10 _ _ (by omega) (by omega) (by omega) hR9 hA9 hF9
        · skip
          obtain ⟨z9, z8⟩ := ses_some c22
          subst z8
          rw [if_pos z9]
          rw [mn_l (by omega)] at hR1 hA1
          have hmi := hMo i i0 z9
          obtain ⟨hCl, hCh⟩ := hR1.2.2.1 i (by rw [isC, monI_f (by decide)]; exact ⟨i0, z9⟩)
          obtain ⟨q1, q2, q3, q4, q5, q6, q7, q8⟩ := id hCl
          have m36 : monI S i 36 i = S 36 i := monI_f (by decide)
          have m37 : monI S i 37 i = S 37 i := if_neg (by omega)
          have KI : zK h1 (nC i) = 2 + 1 := q1
          have hcs := hI.1.2.2.2.1 i i0 z9
          have m35 : monI S (i + 1) 35 i = S 35 i := monI_f (by decide)
          have hsc : RCo h1 (monI S (i + 1) 35 i) (screenAt (monI S (i + 1)) (monI S (i + 1) 35 i)) := by
            have z := RC_scr (S := monI S i) (c := i) (IJ_mon hI).1.2.2.2.1 hR1 (by rw [isC, monI_f (by decide)]; exact ⟨i0, z9⟩)
            rw [monI_f (by decide)] at z
            rw [m35]
            exact RCo_eq (fun p _ _ => screenAt_ag (fun f h5 h6 j => by rw [monI_f (by omega), monI_f (by omega)]) _ p) z
          have hv9 : monI S (i + 1) 37 i = if 60 < S 37 i + S 36 i then 60 else S 37 i + S 36 i := by
            unfold monI
            rw [if_pos ⟨rfl, i0, by omega⟩]
          refine e_aload dX8_runLine_25 rfl ?_
          refine e_aload dX8_runLine_27 rfl ?_
          refine e_getI dX8_runLine_29 flX8_146 rfl KI (q6.trans m37) (fun r29 => ?_)
          refine e_aload dX8_runLine_32 rfl ?_
          refine e_getI dX8_runLine_34 flX8_143 rfl KI (q5.trans m36) (fun r34 => ?_)
          refine e_iadd dX8_runLine_37 ?_
          refine e_bipush dX8_runLine_38 (by decide) ?_
          refine e_min dX8_runLine_40 mlX8_362 tw_mnS tw_maI tw_mnC (Nat.le_of_ble_eq_true rfl) (by decide) (by decide) (by decide) (by decide) (by omega) (by omega) ?_
          rw [← hv9]
          have hz9 : zin (monI S (i + 1) 37 i) := by
            rw [hv9]
            split <;> omega
          refine e_putI dX8_runLine_43 flX8_146 (Or.inl rfl) trivial KI hz9 ?_
          have fr2 : ∀ m, m ≠ nC i → eqAt m h1 (sf h1 204 (nC i) (monI S (i + 1) 37 i)) := fun m hm => eqAt_sf hm
          have hCh2 : RCh (monI S (i + 1)) (sf h1 204 (nC i) (monI S (i + 1) 37 i)) i := RCh_agf (by rw [monI_f (by decide), monI_f (by decide)]) (fun j _ _ => by rw [monI_f (by decide), monI_f (by decide)]) (RCh_at (fr2 _ (by omega)) (fr2 _ (by omega)) (fr2 _ (by omega)) (fr2 _ (by omega)) hCh)
          have hCl2 : RCl (monI S (i + 1)) (sf h1 204 (nC i) (monI S (i + 1) 37 i)) i := by
            refine ⟨q1, q2.trans ?_, q3, q4, ?_, ?_, ?_, ?_⟩
            · rw [monI_f (by decide), monI_f (by decide)]
            · exact (show z2 (zf h1) 204 (nC i) (monI S (i + 1) 37 i) 203 (nC i) = _ from z2_ni (by decide)).trans (q5.trans (by rw [monI_f (by decide), monI_f (by decide)]))
            · exact z2_eq
            · exact (show z2 (zf h1) 204 (nC i) (monI S (i + 1) 37 i) 205 (nC i) = _ from z2_ni (by decide)).trans (q7.trans (by rw [monI_f (by decide), monI_f (by decide)]))
            · exact (show z2 (zf h1) 204 (nC i) (monI S (i + 1) 37 i) 206 (nC i) = _ from z2_ni (by decide)).trans (q8.trans (by rw [monI_f (by decide), monI_f (by decide)]))
          refine e_aload dX8_runLine_46 rfl ?_
          refine e_getR dX8_runLine_48 flX8_341 rfl KI q4 ?_
          refine e_callV (As := []) (cb := 1) dX8_runLine_51 moX0_find mvX0_find mlX8_345 (by decide) rfl (show zK _ (nC i + 1) = 1 + 1 from hCh2.1.1.1) rfl (Nat.le_of_ble_eq_true rfl) ⟨by decide, by decide, by decide, by decide⟩ (c_X0_find hl hCh2 (RCo_at (fr2 _ (by rw [m35]; unfold nS nC; omega)) hsc) (by omega) (by rw [m35]; exact hcs.1) (by rw [m35]; omega) i0) (fun E h1 q => by cases q.1) (fun v h1 q => ?_)
          obtain ⟨e1, g1, g2, g3⟩ := q; cases e1
          rename zH => h3
          have fr3 : ∀ m, (∀ k, k ≤ 4 → m ≠ nC i + k) → eqAt m h1 h3 := fun m hm => eqAt_tr (fr2 m (hm 0 (by decide))) (g3 m (hm 1 (by decide)) (hm 4 (by decide)))
          obtain ⟨hR8, hA8⟩ := RC_mon1 hI ⟨i0, z9⟩ (by omega) hR1 hA1 (RCl_at (g3 _ (by omega) (by omega)) hCl2) g1 g2 fr3
          have e8 : mn (i + 1) (S 2 0) = i + 1 := mn_l (by omega)
          have hR9 : RC (monI S (mn (i + 1) (S 2 0))) h3 := by rw [e8]; exact hR8
          have hA9 : AF (monI S (mn (i + 1) (S 2 0))) h3 (mn (i + 1) (S 2 0)) := by rw [e8]; exact hA8
          have hF9 : FL h h3 := FL_tr hF1 (FL_c i0 (by omega) fr3)
          refine e_iinc dX8_runLine_54 (by decide) rfl rfl rfl rfl ?_
          refine e_goto (tgt := 10) dX8_runLine_57 (by decide) ?_
          refine e_mask [true, true, true, true, false] ?_
          exact ih10 _ _ (by omega) (by omega) (by omega) hR9 hA9 hF9
  refine lp10 7 0 h (by decide) (by decide) (by decide) ?_ (fun c c0 c1 => ?_) FL_rf
  · rw [mn_l n3]
    have e0 : monI S 0 = S := funext fun f => funext fun j => if_neg (by omega)
    rw [e0]
    exact hR
  · have := mn_le (a := 0) (b := S 2 0)
    omega
