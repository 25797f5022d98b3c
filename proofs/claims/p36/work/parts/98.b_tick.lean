set_option maxHeartbeats 4000000 in
set_option maxRecDepth 100000 in
theorem c_X5_doKeysH {l : Launch} (hl : l.stackTraces = false) {h : zH} {s : Int} (k0 : zK h (nS s) = 7) (hz : zf h 608 (nS s) = 1)  : zC l MX5_doKeys [zR (some (nS s))] h (fun o h' => o = .inl none ∧ h' = h) := by
  refine zC_of hl rfl rfl (by decide) rfl rfl (Nat.le_of_ble_eq_true rfl) ?_
  refine e_aload_n dX5_doKeys_0 rfl rfl ?_
  refine e_getI dX5_doKeys_1 flX5_123 rfl (show zK h (nS s) = 6 + 1 from k0) hz (fun r1 => ?_)
  refine e_if_eq (tgt := 8) dX5_doKeys_4 (by decide) (by omega) (fun c4 => ?_) (fun c4 => ?_)
  · skip
    try simp only [b2_0, b2_n0] at c4
    exfalso; omega
  · skip
    try simp only [b2_0, b2_n0] at c4
    refine e_vret dX5_doKeys_7 rfl (by decide) (by decide) ?_
    exact ⟨rfl, rfl⟩
set_option maxHeartbeats 4000000 in
set_option maxRecDepth 100000 in
theorem c_X5_lookN {l : Launch} (hl : l.stackTraces = false) {S : S9} {h : zH} {s : Int} (hSo : RSo S h s) (h31 : S 31 s ≠ 1)  : zC l MX5_lookForRecording [zR (some (nS s))] h (fun o h' => o = .inl none ∧ h' = h) := by
  refine zC_of hl rfl rfl (by decide) rfl rfl (Nat.le_of_ble_eq_true rfl) ?_
  refine e_aload_n dX5_lookForRecording_0 rfl rfl ?_
  refine e_getR dX5_lookForRecording_1 flX5_91 rfl (show zK h (nS s) = 6 + 1 from hSo.1) hSo.2.2.2.2.2.2.2.1 ?_
  refine e_ifnull (tgt := 17) dX5_lookForRecording_4 (by decide) (fun c4 => ?_) (fun r4 c4 => ?_)
  · skip
    refine e_vret dX5_lookForRecording_17 rfl (by decide) (by decide) ?_
    exact ⟨rfl, rfl⟩
  · skip
    exact absurd (recR_some c4).1 h31
set_option maxHeartbeats 4000000 in
set_option maxRecDepth 100000 in
theorem c_X8_passTick {l : Launch} (hl : l.stackTraces = false) {S : S9} {h : zH} {B : Int} (hR : RC S h) (hI : JJ S) (hIB : IB S B) (hB0 : 0 ≤ B ∧ B ≤ 900000000) (hbt : IBt S)  : zC l MX8_passTick [zR (some 2)] h (fun o h' => o = .inl (some (zI (tikU S))) ∧ RC (tik1 S) h' ∧ ∀ m, 0 < m → m < 1000 → eqAt m h h') := by
  refine zC_of hl rfl rfl (by decide) rfl rfl (Nat.le_of_ble_eq_true rfl) ?_
  have hIJ : IJ S := IJ_IB hI hIB
  obtain ⟨⟨⟨p1, p2, p3, p4, p5⟩, ⟨y1, y2, y3⟩, ⟨x1, x2, x3⟩, v1, v2, v3⟩, hRs, hRc, hRf⟩ := id hR
  obtain ⟨n1, n2, n3, n4, n5⟩ := id hI.1
  have hB2 : B2 S := ⟨hbt 29 (by decide), hbt 26 (by decide)⟩
  refine e_aload_n dX8_passTick_0 rfl rfl ?_
  refine e_getR dX8_passTick_1 flX8_11 rfl (show zK _ 2 = 9 + 1 from p1) p2 ?_
  refine e_astore_n dX8_passTick_4 rfl (by decide) rfl rfl ?_
  refine e_aload_n dX8_passTick_5 rfl rfl ?_
  refine e_alen dX8_passTick_6 (t := 5) y1 y2 ?_
  refine e_istore_n dX8_passTick_7 rfl (by decide) rfl rfl ?_
  refine e_iconst dX8_passTick_8 ?_
  refine e_istore_n dX8_passTick_9 rfl (by decide) rfl rfl ?_
  have lp10 : ∀ (d : Nat) (i : Int) (h1 : zH), (4 - i).toNat < d → 0 ≤ i → i ≤ 4 → RC (rowsN S (mn i (S 1 0)).toNat) h1 → hld (rowsN S (mn i (S 1 0)).toNat) h1 0 (mn i (S 1 0)) → (∀ m, m < 1000 → eqAt m h h1) → AW l MX8_passTick (fun o h' => o = .inl (some (zI (tikU S))) ∧ RC (tik1 S) h' ∧ ∀ m, 0 < m → m < 1000 → eqAt m h h') 0 0 10 [zR (some 2), zR (some 3), zI 4, zI i, zX, zX] [] h1 := by
    intro d
    induction d with
    | zero => intro i h1 hd i0 i1 hR1 hh1 hF1; exact absurd hd (by omega)
    | succ d ih =>
      have ih10 := ih
      intro i h1 hd i0 i1 hR1 hh1 hF1
      refine e_iload_n dX8_passTick_10 rfl rfl ?_
      refine e_iload_n dX8_passTick_11 rfl rfl ?_
      refine e_icmp_ge (tgt := 36) dX8_passTick_12 (by decide) (by omega) (by omega) (fun c12 => ?_) (fun c12 => ?_)
      · skip
        rw [mn_r (show S 1 0 ≤ i by omega)] at hR1 hh1
        have e2b : rowsN S (S 1 0).toNat 2 0 = S 2 0 := rowsN_f (by decide) _
        have hMo1 : IMo (rowsN S (S 1 0).toNat) := fun c c0 c1 => (rowsN_IB hIB (S 1 0).toNat).2.2 c c0 c1
        have ebef : monI (rowsN S (S 1 0).toNat) (rowsN S (S 1 0).toNat 2 0) = befS S := by unfold befS; rw [e2b]
        refine e_aload_n dX8_passTick_36 rfl rfl ?_
        refine e_callV (As := []) (cb := 9) dX8_passTick_37 moX8_runLine mvX8_runLine mlX8_353 (by decide) rfl (show zK h1 2 = 9 + 1 from hR1.1.1.1) rfl (Nat.le_of_ble_eq_true rfl) ⟨by decide, by decide, by decide, by decide⟩ (c_X8_runLine hl hR1 (rowsN_IJ hIJ _) hMo1) (fun E h1 q => by cases q.1) (fun v h1 q => ?_)
        obtain ⟨e1, hR2, hF2⟩ := q; cases e1
        rename zH => h2
        rw [ebef] at hR2
        rw [ebef]
        have hh2 : hld (rowsN S (S 1 0).toNat) h2 0 (S 1 0) := fun t t0 t1 => ((hF2 (nS t) (fun c k _ _ _ => by unfold nS nC; omega)).2.2.1 608).trans (hh1 t t0 t1)
        have hF3 : ∀ m, m < 1000 → eqAt m h h2 := fun m hm => eqAt_tr (hF1 m hm) (hF2 m (fun c k _ _ _ => by unfold nC; omega))
        obtain ⟨L, hL9⟩ : ∃ L, L = (lineS (befS S) 24 24).1 := ⟨_, rfl⟩
        have hJL : JJ L := by rw [hL9]; exact lineS_JJ (befS_JJ hI) 24 24
        have hBL : IB L (B + 4) := by rw [hL9]; exact lineS_IB (befS_JJ hI) (befS_IB hI hIB) 24 24
        have e1L : L 1 0 = S 1 0 := by rw [hL9, lineS_f (by decide), befS_f (by decide)]
        refine e_istore_n dX8_passTick_40 rfl (by decide) rfl rfl ?_
        refine e_aload_n dX8_passTick_41 rfl rfl ?_
        refine e_getR dX8_passTick_42 flX8_11 rfl (show zK h2 2 = 9 + 1 from (hF3 2 (by decide)).1.trans p1) (((hF3 2 (by decide)).2.2.2.2.1 900).trans p2) ?_
        refine e_astore_n dX8_passTick_45 rfl (by decide) rfl rfl ?_
        refine e_aload_n dX8_passTick_46 rfl rfl ?_
        refine e_alen dX8_passTick_47 (t := 5) ((hF3 3 (by decide)).1.trans y1) ((hF3 3 (by decide)).2.1.trans y2) ?_
        refine e_istore_n dX8_passTick_48 rfl (by decide) rfl rfl ?_
        refine e_iconst dX8_passTick_49 ?_
        refine e_istore dX8_passTick_50 (by decide) rfl rfl ?_
        have lp52 : ∀ (d : Nat) (i : Int) (h4 : zH), (4 - i).toNat < d → 0 ≤ i → i ≤ 4 → RC (sesN L (mn i (S 1 0)).toNat) h4 → hld (rowsN S (S 1 0).toNat) h4 (mn i (S 1 0)) (S 1 0) → (∀ m, 0 < m → m < 1000 → eqAt m h h4) → AW l MX8_passTick (fun o h' => o = .inl (some (zI (tikU S))) ∧ RC (tik1 S) h' ∧ ∀ m, 0 < m → m < 1000 → eqAt m h h') 0 0 52 [zR (some 2), zI (tikU S), zR (some 3), zI 4, zI i, zX] [] h4 := by
          intro d
          induction d with
          | zero => intro i h4 hd i0 i1 hR4 hh4 hF4; exact absurd hd (by omega)
          | succ d ih =>
            have ih52 := ih
            intro i h4 hd i0 i1 hR4 hh4 hF4
            refine e_iload dX8_passTick_52 rfl ?_
            refine e_iload_n dX8_passTick_54 rfl rfl ?_
            refine e_icmp_ge (tgt := 85) dX8_passTick_55 (by decide) (by omega) (by omega) (fun c55 => ?_) (fun c55 => ?_)
            · skip
              refine e_iload_n dX8_passTick_85 rfl rfl ?_
              refine e_iret dX8_passTick_86 rfl trivial (by decide) (by decide) ?_
              rw [mn_r (show S 1 0 ≤ i by omega)] at hR4
              refine ⟨rfl, ?_, hF4⟩
              unfold tik1
              rw [← hL9]
              exact hR4
            · skip
              refine e_aload_n dX8_passTick_58 rfl rfl ?_
              refine e_iload dX8_passTick_59 rfl ?_
              refine e_aald dX8_passTick_61 (t := 5) ((hF4 3 (by decide) (by decide)).1.trans y1) (by decide) (by decide) i0 (by rw [(hF4 3 (by decide) (by decide)).2.1, y2]; omega) (((hF4 3 (by decide) (by decide)).2.2.2.2.2.1 i).trans (y3 i i0 (by omega))) ?_
              refine e_astore dX8_passTick_62 (by decide) rfl rfl ?_
              refine e_aload dX8_passTick_64 rfl ?_
              refine e_ifnull (tgt := 79) dX8_passTick_66 (by decide) (fun c66 => ?_) (fun r66 c66 => ?_)
              · skip
                have z9 := ses_none2 c66
                have e8 : mn (i + 1) (S 1 0) = mn i (S 1 0) := by rw [mn_r (by omega), mn_r (by omega)]
                have hR9 : RC (sesN L (mn (i + 1) (S 1 0)).toNat) h4 := by rw [e8]; exact hR4
                have hh9 : hld (rowsN S (S 1 0).toNat) h4 (mn (i + 1) (S 1 0)) (S 1 0) := by rw [e8]; exact hh4
                have hF9 := hF4
                refine e_iinc dX8_passTick_79 (by decide) rfl rfl rfl rfl ?_
                refine e_goto (tgt := 52) dX8_passTick_82 (by decide) ?_
                refine e_mask [true, true, true, true, true, false] ?_
                exact ih52 _ _ (by omega) (by omega) (by omega) hR9 hh9 hF9
              · skip
                obtain ⟨z9, z8⟩ := ses_some c66
                subst z8
                rw [if_pos z9]
                rw [mn_l (by omega)] at hR4 hh4
                obtain ⟨T, hT9⟩ : ∃ T, T = sesN L i.toNat := ⟨_, rfl⟩
                rw [← hT9] at hR4
                have i4 : i < 4 := by omega
                have hJT : JJ T := by rw [hT9]; exact sesN_JJ hJL _ (by omega)
                have hIBT : IB T (B + 4 + 20 * i) := by
                  have z := sesN_IB hJL hBL i.toNat (by omega)
                  rw [← hT9, show ((i.toNat : Nat) : Int) = i by omega] at z
                  exact z
                have hIT : IJ T := IJ_IB hJT hIBT
                have eT : ∀ f, tF f → ∀ j, T f j = S f j := fun f hf j => by rw [hT9, hL9]; exact ln_f hf
                have e27 : T 27 i = rowsN S (S 1 0).toNat 27 i := by rw [hT9, hL9]; exact ln_27
                have hsT : isS T i := ⟨i0, by rw [eT 1 (by unfold tF; omega)]; exact z9⟩
                have hzf := (hh4 i (Int.le_refl _) z9).trans e27.symm
                have h27b : T 27 i = 0 ∨ T 27 i = 1 := by rw [e27]; exact rowsN_27 (hbt 27 (by decide)) _ i
                have eNx : sesN L (i + 1).toNat = sesS T i := by rw [show (i + 1).toNat = i.toNat + 1 by omega, sesN_s, ← hT9, show ((i.toNat : Nat) : Int) = i by omega]
                obtain ⟨ed, cp, kn, hSx⟩ := RC_Sx hR4 hsT
                have hko : zK h4 (nS i) = 6 + 1 := hSx.1.2.2.2.2.1.1
                have hcon : zC l MX5_doKeys [zR (some (nS i))] h4 (fun o h' => o = .inl none ∧ RC (if T 27 i = 1 then T else doK T i) h' ∧ (∀ t, t ≠ i → 0 ≤ t → t < 4 → eqAt (nS t) h4 h') ∧ ∀ m, 0 < m → m < 1000 → eqAt m h4 h') := by
                  rcases h27b with z | z
                  · refine zC_mono (c_X5_doKeys hl i0 i4 hSx (hzf.trans z) hJT (B + 4 + 20 * i) hIBT.1 (by omega) (fun w => by rw [eT 10 (by unfold tF; omega)]; exact hbt 10 (by decide) w) (fun w => by rw [eT 11 (by unfold tF; omega)]; exact hbt 11 (by decide) w) (fun w => by rw [eT 13 (by unfold tF; omega)]; exact hbt 13 (by decide) w)) (fun o h' q => ?_)
                    obtain ⟨q1, ⟨ed', cp', q2⟩, q3⟩ := q
                    have hed := lo_ed hSx.2.1
                    have hbn := hJT.1.2.2.2.2 i i0 i4
                    have hcn := hJT.1.2.2.2.1
                    rw [if_neg (by omega)]
                    refine ⟨q1, RC_doK hIT hsT hed q2 q3 hR4, fun t ti t0 t4 => q3 _ ⟨fun w hw => by unfold nS nW; omega, by unfold nS; omega, fun c c0 c1 => by unfold nS nC; omega⟩ (by unfold nS; omega) (by unfold nS at *; omega), fun m m0 m1 => q3 m ⟨fun w hw => by unfold nW; omega, by unfold nS; omega, fun c c0 c1 => by unfold nC; omega⟩ (by unfold nS; omega) (by unfold nS at *; omega)⟩
                  · refine zC_mono (c_X5_doKeysH hl hko (hzf.trans z)) (fun o h' q => ?_)
                    rw [q.2, if_pos z]
                    exact ⟨q.1, hR4, fun _ _ _ _ => eqAt_rf, fun _ _ _ => eqAt_rf⟩
                refine e_aload dX8_passTick_69 rfl ?_
                refine e_callV (As := []) (cb := 6) dX8_passTick_71 moX5_doKeys mvX5_doKeys mlX8_356 (by decide) rfl hko rfl (Nat.le_of_ble_eq_true rfl) ⟨by decide, by decide, by decide, by decide⟩ hcon (fun E h1 q => by cases q.1) (fun v h1 q => ?_)
                obtain ⟨e1, hR5, g5, g6⟩ := q; cases e1
                rename zH => h5
                obtain ⟨U, hU9⟩ : ∃ U, U = if T 27 i = 1 then T else doK T i := ⟨_, rfl⟩
                rw [← hU9] at hR5
                have eSU : sesS T i = recS U i := by unfold sesS; rw [hU9]
                have hJU : JJ U := by
                  rw [hU9]
                  split
                  · exact hJT
                  · exact doK_JJ hJT i0 i4
                have hIBU : IB U (B + 4 + 20 * i + 20) := by
                  rw [hU9]
                  split
                  · exact IB_le (by omega) hIBT
                  · exact doK_IB hJT i0 i4 hIBT
                have hIU : IJ U := IJ_IB hJU hIBU
                have eU : ∀ f, tF f → ∀ j, U f j = S f j := fun f hf j => by
                  rw [hU9]
                  split
                  · exact eT f hf j
                  · rw [doK_f (by unfold tF at hf; omega)]
                    exact eT f hf j
                have hsU : isS U i := ⟨i0, by rw [eU 1 (by unfold tF; omega)]; exact z9⟩
                obtain ⟨hV5, -, hC5, -, -, -, hR5r, -⟩ := hR5.2.1 i hsU
                have hb5 := hIBU.2.1 i i0 i4
                have hcon2 : zC l MX5_lookForRecording [zR (some (nS i))] h5 (fun o h' => o = .inl none ∧ RC (recS U i) h' ∧ ∀ m, (∀ j, 9 ≤ j → j ≤ 13 → m ≠ nS i + j) → eqAt m h5 h') := by
                  by_cases z : U 31 i = 1
                  · refine zC_mono (c_X5_lookForRecording hl hV5 (fun w => by rw [eU 11 (by unfold tF; omega)]; exact hbt 11 (by decide) w) hC5 (fun w => by rw [eU 12 (by unfold tF; omega)]; exact hbt 12 (by decide) w) hb5.2.2.1 hb5.2.2.2.1 hb5.2.2.2.2.1 hb5.2.2.2.2.2 hR5r) (fun o h' q => ?_)
                    exact ⟨q.1, RC_look hIU hsU i4 q.2.1 (fun y => absurd z y) q.2.2 hR5, q.2.2⟩
                  · refine zC_mono (c_X5_lookN hl hV5.2.2.2.2.1 z) (fun o h' q => ?_)
                    rw [q.2]
                    exact ⟨q.1, RC_look hIU hsU i4 (fun y => absurd y z) (fun _ => rfl) (fun _ _ => eqAt_rf) hR5, fun _ _ => eqAt_rf⟩
                refine e_aload dX8_passTick_74 rfl ?_
                refine e_callV (As := []) (cb := 6) dX8_passTick_76 moX5_lookForRecording mvX5_lookForRecording mlX8_359 (by decide) rfl (show zK h5 (nS i) = 6 + 1 from hV5.2.2.2.2.1.1) rfl (Nat.le_of_ble_eq_true rfl) ⟨by decide, by decide, by decide, by decide⟩ hcon2 (fun E h1 q => by cases q.1) (fun v h9 q => ?_)
                obtain ⟨e1, hR6, g7⟩ := q; cases e1
                rename zH => h6
                have e8 : mn (i + 1) (S 1 0) = i + 1 := mn_l (by omega)
                have hR9 : RC (sesN L (mn (i + 1) (S 1 0)).toNat) h6 := by rw [e8, eNx, eSU]; exact hR6
                have hh9 : hld (rowsN S (S 1 0).toNat) h6 (mn (i + 1) (S 1 0)) (S 1 0) := by
                  rw [e8]
                  exact fun t t0 t1 => ((eqAt_tr (g5 t (by omega) (by omega) (by omega)) (g7 (nS t) (fun j j0 j1 => by unfold nS; omega))).2.2.1 608).trans (hh4 t (by omega) t1)
                have hF9 : ∀ m, 0 < m → m < 1000 → eqAt m h h6 := fun m m0 hm => eqAt_tr (hF4 m m0 hm) (eqAt_tr (g6 m m0 hm) (g7 m (fun j j0 j1 => by unfold nS; omega)))
                refine e_iinc dX8_passTick_79 (by decide) rfl rfl rfl rfl ?_
                refine e_goto (tgt := 52) dX8_passTick_82 (by decide) ?_
                refine e_mask [true, true, true, true, true, false] ?_
                exact ih52 _ _ (by omega) (by omega) (by omega) hR9 hh9 hF9
        refine e_mask [true, true, true, true, true, false] ?_
        refine lp52 5 0 h2 (by decide) (by decide) (by decide) ?_ ?_ (fun m _ hm => hF3 m hm)
        · rw [mn_l n1]
          rw [← hL9] at hR2
          exact hR2
        · rw [mn_l n1]
          exact hh2
      · skip
        refine e_aload_n dX8_passTick_15 rfl rfl ?_
        refine e_iload_n dX8_passTick_16 rfl rfl ?_
        refine e_aald dX8_passTick_17 (t := 5) ((hF1 3 (by decide)).1.trans y1) (by decide) (by decide) i0 (by rw [(hF1 3 (by decide)).2.1, y2]; omega) (((hF1 3 (by decide)).2.2.2.2.2.1 i).trans (y3 i i0 (by omega))) ?_
        refine e_astore dX8_passTick_18 (by decide) rfl rfl ?_
        refine e_aload dX8_passTick_20 rfl ?_
        refine e_ifnull (tgt := 30) dX8_passTick_22 (by decide) (fun c22 => ?_) (fun r22 c22 => ?_)
        · skip
          have z9 := ses_none2 c22
          have e8 : mn (i + 1) (S 1 0) = mn i (S 1 0) := by rw [mn_r (by omega), mn_r (by omega)]
          have hR9 : RC (rowsN S (mn (i + 1) (S 1 0)).toNat) h1 := by rw [e8]; exact hR1
          have hh9 : hld (rowsN S (mn (i + 1) (S 1 0)).toNat) h1 0 (mn (i + 1) (S 1 0)) := by rw [e8]; exact hh1
          have hF9 := hF1
          refine e_iinc dX8_passTick_30 (by decide) rfl rfl rfl rfl ?_
          refine e_goto (tgt := 10) dX8_passTick_33 (by decide) ?_
          refine e_mask [true, true, true, true, false, false] ?_
          exact ih10 _ _ (by omega) (by omega) (by omega) hR9 hh9 hF9
        · skip
          obtain ⟨z9, z8⟩ := ses_some c22
          subst z8
          rw [if_pos z9]
          rw [mn_l (by omega)] at hR1 hh1
          obtain ⟨T, hT9⟩ : ∃ T, T = rowsN S i.toNat := ⟨_, rfl⟩
          rw [← hT9] at hR1 hh1
          have hIT : IJ T := by rw [hT9]; exact rowsN_IJ hIJ _
          have hBT : B2 T := by rw [hT9]; exact B2_rowsN hB2 _
          have hIBT : IB T (B + i) := by
            have z := rowsN_IB hIB i.toNat
            rw [← hT9, show ((i.toNat : Nat) : Int) = i by omega] at z
            exact z
          have e1T : T 1 0 = S 1 0 := by rw [hT9]; exact rowsN_f (by decide) _
          have hsT : isS T i := ⟨i0, by omega⟩
          have i4 : i < 4 := by omega
          obtain ⟨hV, -, hC, -, -, hTr, -⟩ := hR1.2.1 i hsT
          have hSo := hV.2.2.2.2.1
          have hb28 := hIBT.2.1 i i0 i4
          have eNx : rowsN S (i + 1).toNat = rowsS T i := by rw [show (i + 1).toNat = i.toNat + 1 by omega, rowsN_s, ← hT9, show ((i.toNat : Nat) : Int) = i by omega]
          refine e_aload dX8_passTick_25 rfl ?_
          refine e_callV (As := []) (cb := 6) dX8_passTick_27 moX5_advanceMove mvX5_advanceMove mlX8_350 (by decide) rfl (show zK h1 (nS i) = 6 + 1 from hSo.1) rfl (Nat.le_of_ble_eq_true rfl) ⟨by decide, by decide, by decide, by decide⟩ (c_X5_advanceMove hl hSo hTr hC hBT.1 (hBT.2 i) (by omega)) (fun E h1 q => by cases q.1) (fun v h9 q => ?_)
          obtain ⟨e1, g1, g2, g3, g4⟩ := q; cases e1
          rename zH => h3
          have hR8 := RC_row hIT hsT i4 g1 g3 g4 hR1
          have e8 : mn (i + 1) (S 1 0) = i + 1 := mn_l (by omega)
          have hR9 : RC (rowsN S (mn (i + 1) (S 1 0)).toNat) h3 := by rw [e8, eNx]; exact hR8
          have hh9 : hld (rowsN S (mn (i + 1) (S 1 0)).toNat) h3 0 (mn (i + 1) (S 1 0)) := by
            rw [e8, eNx]
            intro t t0 t1
            by_cases z : t = i
            · rw [z]; exact g2
            · rw [rowsS_e 27 t (by unfold inS; omega)]
              exact ((g4 (nS t) (by unfold nS; omega) (by unfold nS; omega) (by unfold nS; omega) (by unfold nS; omega)).2.2.1 608).trans (hh1 t t0 (by omega))
          have hF9 : ∀ m, m < 1000 → eqAt m h h3 := fun m hm => eqAt_tr (hF1 m hm) (g4 m (by unfold nS; omega) (by unfold nS; omega) (by unfold nS; omega) (by unfold nS; omega))
          refine e_iinc dX8_passTick_30 (by decide) rfl rfl rfl rfl ?_
          refine e_goto (tgt := 10) dX8_passTick_33 (by decide) ?_
          refine e_mask [true, true, true, true, false, false] ?_
          exact ih10 _ _ (by omega) (by omega) (by omega) hR9 hh9 hF9
  refine lp10 5 0 h (by decide) (by decide) (by decide) ?_ (fun t t0 t1 => ?_) (fun _ _ => eqAt_rf)
  · rw [mn_l n1]
    exact hR
  · rw [mn_l n1] at t1
    omega
set_option maxHeartbeats 4000000 in
set_option maxRecDepth 100000 in
theorem c_X8_tick {l : Launch} (hl : l.stackTraces = false) {S : S9} {h : zH} {B : Int} (hR : RC S h) (hI : II S B) (t : Int) (htz : zin t) (hB0 : 0 ≤ B ∧ B ≤ 800000000)  : zC l MX8_tick [zR (some 2), zI t] h (QC S h (if ¬ (1 ≤ t ∧ t ≤ 20) then 1 else 0) [exA] (zI (tikV S t.toNat)) (tikS S t)) := by
  refine zC_of hl rfl rfl (by decide) rfl rfl (Nat.le_of_ble_eq_true rfl) ?_
  have hN : IN S := hI.1.1
  have hIW : IW S := hI.1.2.1
  have hIO : IO S := hI.1.2.2.1
  have hIC : IC S := hI.1.2.2.2.1
  have hIK : IK S := hI.1.2.2.2.2
  have hB3 := hI.2.2.1
  have hbt := hI.2.2.2.2
  obtain ⟨⟨⟨p1, p2, p3, p4, p5⟩, ⟨y1, y2, y3⟩, ⟨x1, x2, x3⟩, v1, v2, v3⟩, hRs, hRc, hRf⟩ := id hR
  obtain ⟨n1, n2, n3, n4, n5⟩ := id hN
  refine e_iload_n dX8_tick_0 rfl rfl ?_
  refine e_iconst dX8_tick_1 ?_
  refine e_bipush dX8_tick_2 (by decide) ?_
  refine e_callS (As := [zI _, zI _, zI _]) dX8_tick_4 moX8_isWithin msX8_isWithin mlX8_116 rfl (Nat.le_of_ble_eq_true rfl) ⟨by decide, by decide, by decide, by decide⟩ (c_X8_isWithin hl t 1 20 htz (by decide) (by decide)) (fun E h1 q => by cases q.1) (fun v h9 q => ?_)
  obtain ⟨e1, e2⟩ := q; cases e1; rw [e2]; clear e2 h9
  refine e_if_ne (tgt := 20) dX8_tick_7 (by decide) b2_in (fun c7 => ?_) (fun c7 => ?_)
  · skip
    try simp only [b2_0, b2_n0] at c7
    refine e_iconst dX8_tick_20 ?_
    refine e_istore_n dX8_tick_21 rfl (by decide) rfl rfl ?_
    refine e_iconst dX8_tick_22 ?_
    refine e_istore_n dX8_tick_23 rfl (by decide) rfl rfl ?_
    have lp24 : ∀ (d : Nat) (k v : Int) (h1 : zH), (t - k).toNat < d → 0 ≤ k → k ≤ t → v = tikV S k.toNat → RC (tikN S k.toNat) h1 → (∀ m, 0 < m → m < 1000 → eqAt m h h1) → AW l MX8_tick (QC S h (if ¬ (1 ≤ t ∧ t ≤ 20) then 1 else 0) [exA] (zI (tikV S t.toNat)) (tikS S t)) 0 0 24 [zR (some 2), zI t, zI v, zI k] [] h1 := by
      intro d
      induction d with
      | zero => intro k v h1 hd k0 k1 hv hR1 hF1; exact absurd hd (by omega)
      | succ d ih =>
        have ih24 := ih
        intro k v h1 hd k0 k1 hv hR1 hF1
        refine e_iload_n dX8_tick_24 rfl rfl ?_
        refine e_iload_n dX8_tick_25 rfl rfl ?_
        refine e_icmp_ge (tgt := 42) dX8_tick_26 (by decide) (by omega) (by omega) (fun c26 => ?_) (fun c26 => ?_)
        · skip
          refine e_aload_n dX8_tick_42 rfl rfl ?_
          refine e_dup dX8_tick_43 rfl ?_
          have ek : k = t := by omega
          subst ek
          have hvk := tikV_in (S := S) k.toNat
          refine e_getL dX8_tick_44 flX8_25 rfl (show zK h1 2 = 9 + 1 from hR1.1.1.1) (hR1.1.1.2.2.2.2.trans (tikN_f (by decide) _)) ?_
          refine e_iload_n dX8_tick_47 rfl rfl ?_
          refine e_i2l dX8_tick_48 (by omega) ?_
          refine e_ladd dX8_tick_49 ?_
          refine e_putL dX8_tick_50 flX8_25 (Or.inl rfl) rfl (show zK h1 2 = 9 + 1 from hR1.1.1.1) ?_
          refine e_iload_n dX8_tick_53 rfl rfl ?_
          refine e_iret dX8_tick_54 rfl trivial (by decide) (by decide) ?_
          have hIJ : IJ (tikN S k.toNat) := IJ_IB (tikN_JJ hI.1 _) (tikN_IB hI.1 hB3 _)
          exact QC_ok (by first | (rw [if_neg (by omega)]; done) | (rw [if_neg (by omega), if_neg (by omega)]; done) | (rw [if_neg (by omega), if_neg (by omega), if_neg (by omega)]; done) | (rw [if_neg (by omega), if_neg (by omega), if_neg (by omega), if_neg (by omega)]; done)) (by rw [hv]) (fun m hm => eqAt_tr (hF1 m (by omega) (by omega)) (eqAt_sl (by omega))) (by rw [hv]; exact RC_units hIJ hR1)
        · skip
          refine e_iload_n dX8_tick_29 rfl rfl ?_
          refine e_aload_n dX8_tick_30 rfl rfl ?_
          refine e_callV (As := []) (cb := 9) dX8_tick_31 moX8_passTick mvX8_passTick mlX8_181 (by decide) rfl (show zK h1 2 = 9 + 1 from hR1.1.1.1) rfl (Nat.le_of_ble_eq_true rfl) ⟨by decide, by decide, by decide, by decide⟩ (c_X8_passTick hl hR1 (tikN_JJ hI.1 k.toNat) (tikN_IB hI.1 hB3 k.toNat) (by omega) (IBt_tikN hbt k.toNat)) (fun E h1 q => by cases q.1) (fun v h1 q => ?_)
          obtain ⟨e1, hR2, hF2⟩ := q; cases e1
          have hvk := tikV_in (S := S) k.toNat
          have eV : v + tikU (tikN S k.toNat) = tikV S (k + 1).toNat := by rw [show (k + 1).toNat = k.toNat + 1 by omega, tikV_s, hv]
          have eN : tik1 (tikN S k.toNat) = tikN S (k + 1).toNat := by rw [show (k + 1).toNat = k.toNat + 1 by omega, tikN_s]
          rw [eN] at hR2
          have hvk1 := tikV_in (S := S) (k + 1).toNat
          refine e_iadd dX8_tick_34 ?_
          rw [eV]
          refine e_istore_n dX8_tick_35 rfl (by decide) rfl rfl ?_
          refine e_iinc dX8_tick_36 (by decide) rfl rfl rfl rfl ?_
          refine e_goto (tgt := 24) dX8_tick_39 (by decide) ?_
          exact ih24 _ _ _ (by omega) (by omega) (by omega) rfl hR2 (fun m m0 m1 => eqAt_tr (hF1 m m0 m1) (hF2 m m0 m1))
    exact lp24 22 0 0 h (by omega) (by omega) (by omega) rfl hR (fun _ _ _ => eqAt_rf)
  · skip
    try simp only [b2_0, b2_n0] at c7
    refine e_throw (cls := "java/lang/IllegalArgumentException") (text := "the number is out of range") dX8_tick_10 dX8_tick_13 dX8_tick_14 dX8_tick_16 dX8_tick_19 (by decide +kernel) txX8_48 txI_IllegalArgumentException (by decide +kernel) (by decide +kernel) zatX8_52 rfl (by decide) (by decide) (Nat.le_of_ble_eq_true rfl) (by decide) (by decide) ?_
    first
      | exact QC_no (x := 1) (by first | (rw [if_pos (by omega)]; done) | (rw [if_neg (by omega), if_pos (by omega)]; done) | (rw [if_neg (by omega), if_neg (by omega), if_pos (by omega)]; done) | (rw [if_neg (by omega), if_neg (by omega), if_neg (by omega), if_pos (by omega)]; done)) (by decide) rfl (fun _ _ => eqAt_rf) hR
