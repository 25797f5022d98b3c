set_option maxHeartbeats 4000000 in
set_option maxRecDepth 100000 in
theorem c_X8_noted {l : Launch} (hl : l.stackTraces = false) {S : S9} {h : zH} {B : Int} (hR : RC S h) (hI : II S B) (s : Int) (hsz : zin s)  : zC l MX8_noted [zR (some 2), zI s] h (QC S h (if ¬ isS S s then 1 else if ¬ S 31 s = 1 then 2 else 0) [exI, exN] (zI (S 33 s)) S) := by
  refine zC_of hl rfl rfl (by decide) rfl rfl (Nat.le_of_ble_eq_true rfl) ?_
  have hN : IN S := hI.1.1
  have hIW : IW S := hI.1.2.1
  have hIO : IO S := hI.1.2.2.1
  have hIC : IC S := hI.1.2.2.2.1
  have hIK : IK S := hI.1.2.2.2.2
  have hB3 := hI.2.2.1
  have hbt := hI.2.2.2.2
  obtain ⟨⟨⟨p1, p2, p3, p4, p5⟩, ⟨y1, y2, y3⟩, ⟨x1, x2, x3⟩, v1, v2, v3⟩, hRs, hRc, hRf⟩ := id hR
  obtain ⟨n1, n2, n3, n4, n5⟩ := id hN
  refine e_aload_n dX8_noted_0 rfl rfl ?_
  refine e_iload_n dX8_noted_1 rfl rfl ?_
  refine e_callV (As := [zI _]) (cb := 9) dX8_noted_2 moX8_sessionAt mvX8_sessionAt mlX8_37 (by decide) rfl (show zK _ 2 = 9 + 1 from p1) rfl (Nat.le_of_ble_eq_true rfl) ⟨by decide, by decide, by decide, by decide⟩ (c_X8_sessionAt hl hR hN s hsz) (fun E h9 q => by (obtain ⟨e2, hz, e1⟩ := Qat_r q); subst e1; subst e2; exact AX_out rfl (by decide) (by decide) (QC_no (x := 1) (by first | (rw [if_pos (by omega)]; done) | (rw [if_neg (by omega), if_pos (by omega)]; done) | (rw [if_neg (by omega), if_neg (by omega), if_pos (by omega)]; done) | (rw [if_neg (by omega), if_neg (by omega), if_neg (by omega), if_pos (by omega)]; done)) (by decide) rfl (fun _ _ => eqAt_rf) hR)) (fun v h9 q => ?_)
  obtain ⟨e2, hs0, e1⟩ := Qat_l q; cases e1; rw [e2]; clear q e2 h9
  obtain ⟨hV, ⟨ed, cp, kn, hK⟩, hC, hWn, hCp, hT, hRr, hRr0⟩ := hRs s hs0
  obtain ⟨⟨s0, s4⟩, -, -, -, hSo, hP, hWs⟩ := id hV
  obtain ⟨o1, o2, o3, o4, o5, o6, o7, o8, o9⟩ := id hSo
  have hb4 := n5 s s0 s4
  have K6 : zK h (nS s) = 6 + 1 := o1
  have z31 := hI.2.2.2.1.1 s s0 s4
  have b31 := hbt 31 (by decide) s
  have b9 := hB3.2.1 s s0 s4
  refine e_getR dX8_noted_5 flX8_298 rfl K6 o8 ?_
  refine e_astore_n dX8_noted_8 rfl (by decide) rfl rfl ?_
  refine e_aload_n dX8_noted_9 rfl rfl ?_
  refine e_ifnonnull (tgt := 24) dX8_noted_10 (by decide) (fun r10 c10 => ?_) (fun c10 => ?_)
  · skip
    rw [c10]
    obtain ⟨hr, hr2⟩ := recR_some c10
    subst hr2
    refine e_aload_n dX8_noted_24 rfl rfl ?_
    refine e_getI dX8_noted_25 flX8_320 rfl (show zK h (nS s + 9) = 5 + 1 from (hRr hr).1.1.1) (hRr hr).2.1.2 (fun r25 => ?_)
    refine e_iret dX8_noted_28 rfl trivial (by decide) (by decide) ?_
    exact QC_ok (by first | (rw [if_neg (by omega)]; done) | (rw [if_neg (by omega), if_neg (by omega)]; done) | (rw [if_neg (by omega), if_neg (by omega), if_neg (by omega)]; done) | (rw [if_neg (by omega), if_neg (by omega), if_neg (by omega), if_neg (by omega)]; done)) rfl (fun _ _ => eqAt_rf) hR
  · skip
    have hr := recR_none c10
    refine e_throwN (cls := "java/util/NoSuchElementException") (text := "there is no recording") dX8_noted_13 dX8_noted_16 dX8_noted_17 dX8_noted_20 dX8_noted_23 (by decide +kernel) txX8_258 txI_NoSuchElementException (by decide +kernel) (by decide +kernel) zatN_262 rfl (by decide) (by decide) (Nat.le_of_ble_eq_true rfl) (by decide) (by decide) ?_
    first
      | exact QC_no (x := 1) (by first | (rw [if_pos (by omega)]; done) | (rw [if_neg (by omega), if_pos (by omega)]; done) | (rw [if_neg (by omega), if_neg (by omega), if_pos (by omega)]; done) | (rw [if_neg (by omega), if_neg (by omega), if_neg (by omega), if_pos (by omega)]; done)) (by decide) rfl (fun _ _ => eqAt_rf) hR
      | exact QC_no (x := 2) (by first | (rw [if_pos (by omega)]; done) | (rw [if_neg (by omega), if_pos (by omega)]; done) | (rw [if_neg (by omega), if_neg (by omega), if_pos (by omega)]; done) | (rw [if_neg (by omega), if_neg (by omega), if_neg (by omega), if_pos (by omega)]; done)) (by decide) rfl (fun _ _ => eqAt_rf) hR
set_option maxHeartbeats 4000000 in
set_option maxRecDepth 100000 in
theorem c_X8_played {l : Launch} (hl : l.stackTraces = false) {S : S9} {h : zH} {B : Int} (hR : RC S h) (hI : II S B) (s : Int) (hsz : zin s) (t : Int) (htz : zin t) (x : Int) (hxz : zin x) (y : Int) (hyz : zin y)  : zC l MX8_played [zR (some 2), zI s, zI t, zI x, zI y] h (QC S h (if ¬ (isS S s ∧ isXY x y) then 1 else if ¬ (1 ≤ t ∧ t ≤ S 32 s) then 2 else 0) [exI, exN] (zI (S 34 ((60 * s + (t - 1)) * 96 + (y * 12 + x)))) S) := by
  refine zC_of hl rfl rfl (by decide) rfl rfl (Nat.le_of_ble_eq_true rfl) ?_
  have hN : IN S := hI.1.1
  have hIW : IW S := hI.1.2.1
  have hIO : IO S := hI.1.2.2.1
  have hIC : IC S := hI.1.2.2.2.1
  have hIK : IK S := hI.1.2.2.2.2
  have hB3 := hI.2.2.1
  have hbt := hI.2.2.2.2
  obtain ⟨⟨⟨p1, p2, p3, p4, p5⟩, ⟨y1, y2, y3⟩, ⟨x1, x2, x3⟩, v1, v2, v3⟩, hRs, hRc, hRf⟩ := id hR
  obtain ⟨n1, n2, n3, n4, n5⟩ := id hN
  refine e_aload_n dX8_played_0 rfl rfl ?_
  refine e_iload_n dX8_played_1 rfl rfl ?_
  refine e_callV (As := [zI _]) (cb := 9) dX8_played_2 moX8_sessionAt mvX8_sessionAt mlX8_37 (by decide) rfl (show zK _ 2 = 9 + 1 from p1) rfl (Nat.le_of_ble_eq_true rfl) ⟨by decide, by decide, by decide, by decide⟩ (c_X8_sessionAt hl hR hN s hsz) (fun E h9 q => by (obtain ⟨e2, hz, e1⟩ := Qat_r q); subst e1; subst e2; exact AX_out rfl (by decide) (by decide) (QC_no (x := 1) (by first | (rw [if_pos (by omega)]; done) | (rw [if_neg (by omega), if_pos (by omega)]; done) | (rw [if_neg (by omega), if_neg (by omega), if_pos (by omega)]; done) | (rw [if_neg (by omega), if_neg (by omega), if_neg (by omega), if_pos (by omega)]; done)) (by decide) rfl (fun _ _ => eqAt_rf) hR)) (fun v h9 q => ?_)
  obtain ⟨e2, hs0, e1⟩ := Qat_l q; cases e1; rw [e2]; clear q e2 h9
  obtain ⟨hV, ⟨ed, cp, kn, hK⟩, hC, hWn, hCp, hT, hRr, hRr0⟩ := hRs s hs0
  obtain ⟨⟨s0, s4⟩, -, -, -, hSo, hP, hWs⟩ := id hV
  obtain ⟨o1, o2, o3, o4, o5, o6, o7, o8, o9⟩ := id hSo
  have hb4 := n5 s s0 s4
  have K6 : zK h (nS s) = 6 + 1 := o1
  have z31 := hI.2.2.2.1.1 s s0 s4
  have b31 := hbt 31 (by decide) s
  have b9 := hB3.2.1 s s0 s4
  refine e_getR dX8_played_5 flX8_298 rfl K6 o8 ?_
  refine e_astore dX8_played_8 (by decide) rfl rfl ?_
  refine e_iload_n dX8_played_10 rfl rfl ?_
  refine e_iload dX8_played_11 rfl ?_
  refine e_callS (As := [zI _, zI _]) dX8_played_13 moX8_screenCell msX8_screenCell mlX8_128 rfl (Nat.le_of_ble_eq_true rfl) ⟨by decide, by decide, by decide, by decide⟩ (show zC l MX8_screenCell [zI x, zI y] h (Qat (isXY x y) (zI (y * 12 + x)) exI h) from c_X8_screenCell hl x y hxz hyz) (fun E h9 q => by (obtain ⟨e2, hz, e1⟩ := Qat_r q); subst e1; subst e2; exact AX_out rfl (by decide) (by decide) (QC_no (x := 1) (by first | (rw [if_pos (by omega)]; done) | (rw [if_neg (by omega), if_pos (by omega)]; done) | (rw [if_neg (by omega), if_neg (by omega), if_pos (by omega)]; done) | (rw [if_neg (by omega), if_neg (by omega), if_neg (by omega), if_pos (by omega)]; done)) (by decide) rfl (fun _ _ => eqAt_rf) hR)) (fun v h9 q => ?_)
  obtain ⟨e2, hxy, e1⟩ := Qat_l q; cases e1; rw [e2]; clear q e2 h9
  refine e_istore dX8_played_16 (by decide) rfl rfl ?_
  refine e_aload dX8_played_18 rfl ?_
  refine e_ifnull (tgt := 36) dX8_played_20 (by decide) (fun c20 => ?_) (fun r20 c20 => ?_)
  · skip
    have hr := recR_none c20
    refine e_throwN (cls := "java/util/NoSuchElementException") (text := "there is no recording of such a tick") dX8_played_36 dX8_played_39 dX8_played_40 dX8_played_43 dX8_played_46 (by decide +kernel) txX8_258 txI_NoSuchElementException (by decide +kernel) (by decide +kernel) zatN_262 rfl (by decide) (by decide) (Nat.le_of_ble_eq_true rfl) (by decide) (by decide) ?_
    first
      | exact QC_no (x := 1) (by first | (rw [if_pos (by omega)]; done) | (rw [if_neg (by omega), if_pos (by omega)]; done) | (rw [if_neg (by omega), if_neg (by omega), if_pos (by omega)]; done) | (rw [if_neg (by omega), if_neg (by omega), if_neg (by omega), if_pos (by omega)]; done)) (by decide) rfl (fun _ _ => eqAt_rf) hR
      | exact QC_no (x := 2) (by first | (rw [if_pos (by omega)]; done) | (rw [if_neg (by omega), if_pos (by omega)]; done) | (rw [if_neg (by omega), if_neg (by omega), if_pos (by omega)]; done) | (rw [if_neg (by omega), if_neg (by omega), if_neg (by omega), if_pos (by omega)]; done)) (by decide) rfl (fun _ _ => eqAt_rf) hR
  · skip
    rw [c20]
    obtain ⟨hr, hr2⟩ := recR_some c20
    subst hr2
    have K5 : zK h (nS s + 9) = 5 + 1 := (hRr hr).1.1.1
    refine e_iload_n dX8_played_23 rfl rfl ?_
    refine e_iconst dX8_played_24 ?_
    refine e_aload dX8_played_25 rfl ?_
    refine e_getI dX8_played_27 flX8_305 rfl K5 (hRr hr).2.1.1 (fun r27 => ?_)
    refine e_callS (As := [zI _, zI _, zI _]) dX8_played_30 moX8_isWithin msX8_isWithin mlX8_116 rfl (Nat.le_of_ble_eq_true rfl) ⟨by decide, by decide, by decide, by decide⟩ (c_X8_isWithin hl t 1 (S 32 s) htz (by decide) (by omega)) (fun E h1 q => by cases q.1) (fun v h9 q => ?_)
    obtain ⟨e1, e2⟩ := q; cases e1; rw [e2]; clear e2 h9
    refine e_if_ne (tgt := 47) dX8_played_33 (by decide) b2_in (fun c33 => ?_) (fun c33 => ?_)
    · skip
      try simp only [b2_0, b2_n0] at c33
      refine e_aload dX8_played_47 rfl ?_
      refine e_iload_n dX8_played_49 rfl rfl ?_
      refine e_callV (As := [zI _]) (cb := 5) dX8_played_50 moX4_play mvX4_play mlX8_311 (by decide) rfl K5 rfl (Nat.le_of_ble_eq_true rfl) ⟨by decide, by decide, by decide, by decide⟩ (c_X4_play hl (hRr hr) t htz (by omega) (by omega) (by omega)) (fun E h1 q => by cases q.1) (fun v h1 q => ?_)
      obtain ⟨e1, hX9, hp9, hf9⟩ := q; cases e1
      rename zH => h3
      refine e_aload dX8_played_53 rfl ?_
      refine e_getR dX8_played_55 flX8_315 rfl (show zK h3 (nS s + 9) = 5 + 1 from hX9.1.1.1) hX9.1.1.2.2.2.2.2 ?_
      refine e_iload dX8_played_58 rfl ?_
      refine e_iald dX8_played_60 hX9.1.2.2.2.2.2.1 (by omega) (by rw [hX9.1.2.2.2.2.2.2]; omega) ((hp9 _ (by omega) (by omega)).trans (if_pos (by omega))) (fun r60 => ?_)
      refine e_iret dX8_played_61 rfl trivial (by decide) (by decide) ?_
      have hfin : RC S h3 := RC_rec (IJ_II hI) hI.1 hs0 s4 (fun _ _ _ => rfl) (fun _ _ _ => rfl) (fun m _ m1 => hf9 m (m1 14 (by decide) (by decide))) (RSo_at (hf9 _ (by omega)) hSo) (fun _ => hX9) (fun z => absurd hr z) hR
      exact QC_ok (by first | (rw [if_neg (by omega)]; done) | (rw [if_neg (by omega), if_neg (by omega)]; done) | (rw [if_neg (by omega), if_neg (by omega), if_neg (by omega)]; done) | (rw [if_neg (by omega), if_neg (by omega), if_neg (by omega), if_neg (by omega)]; done)) rfl (fun m hm => hf9 m (by unfold nS; omega)) hfin
    · skip
      try simp only [b2_0, b2_n0] at c33
      refine e_throwN (cls := "java/util/NoSuchElementException") (text := "there is no recording of such a tick") dX8_played_36 dX8_played_39 dX8_played_40 dX8_played_43 dX8_played_46 (by decide +kernel) txX8_258 txI_NoSuchElementException (by decide +kernel) (by decide +kernel) zatN_262 rfl (by decide) (by decide) (Nat.le_of_ble_eq_true rfl) (by decide) (by decide) ?_
      first
        | exact QC_no (x := 1) (by first | (rw [if_pos (by omega)]; done) | (rw [if_neg (by omega), if_pos (by omega)]; done) | (rw [if_neg (by omega), if_neg (by omega), if_pos (by omega)]; done) | (rw [if_neg (by omega), if_neg (by omega), if_neg (by omega), if_pos (by omega)]; done)) (by decide) rfl (fun _ _ => eqAt_rf) hR
        | exact QC_no (x := 2) (by first | (rw [if_pos (by omega)]; done) | (rw [if_neg (by omega), if_pos (by omega)]; done) | (rw [if_neg (by omega), if_neg (by omega), if_pos (by omega)]; done) | (rw [if_neg (by omega), if_neg (by omega), if_neg (by omega), if_pos (by omega)]; done)) (by decide) rfl (fun _ _ => eqAt_rf) hR
set_option maxHeartbeats 4000000 in
set_option maxRecDepth 100000 in
theorem c_X8_record {l : Launch} (hl : l.stackTraces = false) {S : S9} {h : zH} {B : Int} (hR : RC S h) (hI : II S B) (s : Int) (hsz : zin s)  : zC l MX8_record [zR (some 2), zI s] h (QC S h (if ¬ isS S s then 1 else 0) [exI] (zI (S 32 s)) (recB S s)) := by
  refine zC_of hl rfl rfl (by decide) rfl rfl (Nat.le_of_ble_eq_true rfl) ?_
  have hN : IN S := hI.1.1
  have hIW : IW S := hI.1.2.1
  have hIO : IO S := hI.1.2.2.1
  have hIC : IC S := hI.1.2.2.2.1
  have hIK : IK S := hI.1.2.2.2.2
  have hB3 := hI.2.2.1
  have hbt := hI.2.2.2.2
  obtain ⟨⟨⟨p1, p2, p3, p4, p5⟩, ⟨y1, y2, y3⟩, ⟨x1, x2, x3⟩, v1, v2, v3⟩, hRs, hRc, hRf⟩ := id hR
  obtain ⟨n1, n2, n3, n4, n5⟩ := id hN
  refine e_aload_n dX8_record_0 rfl rfl ?_
  refine e_iload_n dX8_record_1 rfl rfl ?_
  refine e_callV (As := [zI _]) (cb := 9) dX8_record_2 moX8_sessionAt mvX8_sessionAt mlX8_37 (by decide) rfl (show zK _ 2 = 9 + 1 from p1) rfl (Nat.le_of_ble_eq_true rfl) ⟨by decide, by decide, by decide, by decide⟩ (c_X8_sessionAt hl hR hN s hsz) (fun E h9 q => by (obtain ⟨e2, hz, e1⟩ := Qat_r q); subst e1; subst e2; exact AX_out rfl (by decide) (by decide) (QC_no (x := 1) (by first | (rw [if_pos (by omega)]; done) | (rw [if_neg (by omega), if_pos (by omega)]; done) | (rw [if_neg (by omega), if_neg (by omega), if_pos (by omega)]; done) | (rw [if_neg (by omega), if_neg (by omega), if_neg (by omega), if_pos (by omega)]; done)) (by decide) rfl (fun _ _ => eqAt_rf) hR)) (fun v h9 q => ?_)
  obtain ⟨e2, hs0, e1⟩ := Qat_l q; cases e1; rw [e2]; clear q e2 h9
  obtain ⟨hV, ⟨ed, cp, kn, hK⟩, hC, hWn, hCp, hT, hRr, hRr0⟩ := hRs s hs0
  obtain ⟨⟨s0, s4⟩, -, -, -, hSo, hP, hWs⟩ := id hV
  obtain ⟨o1, o2, o3, o4, o5, o6, o7, o8, o9⟩ := id hSo
  have hb4 := n5 s s0 s4
  have K6 : zK h (nS s) = 6 + 1 := o1
  have z31 := hI.2.2.2.1.1 s s0 s4
  have b31 := hbt 31 (by decide) s
  have b9 := hB3.2.1 s s0 s4
  refine e_astore_n dX8_record_5 rfl (by decide) rfl rfl ?_
  refine e_aload_n dX8_record_6 rfl rfl ?_
  refine e_getR dX8_record_7 flX8_298 rfl K6 o8 ?_
  refine e_ifnonnull (tgt := 24) dX8_record_10 (by decide) (fun r10 c10 => ?_) (fun c10 => ?_)
  · skip
    obtain ⟨hr, hr2⟩ := recR_some c10
    have K5 : zK h (nS s + 9) = 5 + 1 := (hRr hr).1.1.1
    have hRf0 : RRf h s := (hRr hr).1
    have hSo0 : zr h 606 (nS s) = some (nS s + 9) := o8.trans (if_pos hr)
    have tk0 : zf h 505 (nS s + 9) = S 32 s := (hRr hr).2.1.1
    have fr0 : ∀ m, m ≠ nS s → (∀ j, 9 ≤ j → j ≤ 14 → m ≠ nS s + j) → eqAt m h h := fun _ _ _ => eqAt_rf
    have hSe : eqAt (nS s) h h := eqAt_rf
    have K6b := K6
    have hSof : ∀ i, i ≠ 606 → zr h i (nS s) = zr h i (nS s) ∧ zf h i (nS s) = zf h i (nS s) := fun _ _ => ⟨rfl, rfl⟩
    refine e_aload_n dX8_record_24 rfl rfl ?_
    refine e_getR dX8_record_25 flX8_298 rfl K6b hSo0 ?_
    refine e_getI dX8_record_28 flX8_305 rfl (show zK _ (nS s + 9) = 5 + 1 from hRf0.1.1) tk0 (fun r28 => ?_)
    refine e_istore_n dX8_record_31 rfl (by decide) rfl rfl ?_
    refine e_aload_n dX8_record_32 rfl rfl ?_
    refine e_getR dX8_record_33 flX8_298 rfl K6b hSo0 ?_
    refine e_callV (As := []) (cb := 5) dX8_record_36 moX4_begin mvX4_begin mlX8_308 (by decide) rfl (show zK _ (nS s + 9) = 5 + 1 from hRf0.1.1) rfl (Nat.le_of_ble_eq_true rfl) ⟨by decide, by decide, by decide, by decide⟩ (c_X4_begin hl (S := recB S s) hRf0 recB_32) (fun E h1 q => by cases q.1) (fun v h1 q => ?_)
    obtain ⟨e1, hX9, hf9⟩ := q; cases e1
    rename zH => h8
    have hI4 := I4_record (II_4 hI) hs0.2
    have fr : ∀ m, m ≠ nS s → (∀ j, 9 ≤ j → j ≤ 14 → m ≠ nS s + j) → eqAt m h h8 := fun m m0 m1 => eqAt_tr (fr0 m m0 m1) (hf9 m (m1 9 (by decide) (by decide)) (m1 13 (by decide) (by decide)))
    have hRR : RR (recB S s) h8 s := RRx_eq recB_33 (fun _ _ _ => rfl) rfl (fun _ _ _ _ _ _ => rfl) hX9
    have e8 := hf9 (nS s) (by omega) (by omega)
    have hSo8 : RSo (recB S s) h8 s := by
      refine ⟨e8.1.trans K6b, (e8.2.2.2.2.1 _).trans ((hSof 600 (by decide)).1.trans o2), (e8.2.2.2.2.1 _).trans ((hSof 601 (by decide)).1.trans o3), (e8.2.2.2.2.1 _).trans ((hSof 602 (by decide)).1.trans o4), (e8.2.2.2.2.1 _).trans ((hSof 603 (by decide)).1.trans o5), (e8.2.2.2.2.1 _).trans ((hSof 604 (by decide)).1.trans o6), (e8.2.2.2.2.1 _).trans ((hSof 605 (by decide)).1.trans o7), ?_, (e8.2.2.1 _).trans ((hSof 607 (by decide)).2.trans (o9.trans (recB_f (by decide)).symm))⟩
      rw [recB_31, if_pos rfl]
      exact (e8.2.2.2.2.1 _).trans hSo0
    have hfin : RC (recB S s) h8 := RC_rec (IJ_II hI) hI4.1 hs0 s4 (fun f hf j => recB_f (by omega)) recB_e fr hSo8 (fun _ => hRR) (fun z => absurd recB_31 z) hR
    refine e_iload_n dX8_record_39 rfl rfl ?_
    refine e_iret dX8_record_40 rfl trivial (by decide) (by decide) ?_
    exact QC_ok (by first | (rw [if_neg (by omega)]; done) | (rw [if_neg (by omega), if_neg (by omega)]; done) | (rw [if_neg (by omega), if_neg (by omega), if_neg (by omega)]; done) | (rw [if_neg (by omega), if_neg (by omega), if_neg (by omega), if_neg (by omega)]; done)) rfl (fun m hm => fr m (by unfold nS; omega) (fun j _ _ => by unfold nS; omega)) hfin
  · skip
    have hr := recR_none c10
    have hz9 := hRr0 hr
    have z32 := (z31 (by omega)).1
    refine e_aload_n dX8_record_13 rfl rfl ?_
    refine e_new (ci := 5) (nS s + 9) dX8_record_14 (by decide) clX8_302 tn_X4.1 tn_X4.2 (by unfold nS; omega) (hz9 9 (by decide) (by decide)) (by decide) (by decide) ?_
    refine e_dup dX8_record_17 rfl ?_
    refine e_callI (As := []) dX8_record_18 moX4_init miX4_init rfl rfl mlX8_304 rfl (Nat.le_of_ble_eq_true rfl) ⟨by decide, by decide, by decide, by decide⟩ (c_X4_init hl (s := s) (if_pos rfl) ((if_neg (by omega)).trans (hz9 10 (by decide) (by decide))) ((if_neg (by omega)).trans (hz9 11 (by decide) (by decide))) ((if_neg (by omega)).trans (hz9 12 (by decide) (by decide))) ((if_neg (by omega)).trans (hz9 13 (by decide) (by decide))) ((if_neg (by omega)).trans (hz9 14 (by decide) (by decide))) (if_pos rfl) (if_pos rfl)) (fun E h1 q => by cases q.1) (fun v h1 q => ?_)
    obtain ⟨e1, g1, g2, g3, g4⟩ := q; cases e1
    rename zH => h3
    have e0 : eqAt (nS s) h h3 := eqAt_tr (eqAt_nw (by omega)) (g4 _ (fun j j0 j1 => by omega))
    refine e_putR dX8_record_21 flX8_298 (Or.inl rfl) rfl (show zK h3 (nS s) = 6 + 1 from e0.1.trans o1) ?_
    have fr0 : ∀ m, m ≠ nS s → (∀ j, 9 ≤ j → j ≤ 14 → m ≠ nS s + j) → eqAt m h (sr h3 606 (nS s) (some (nS s + 9))) := fun m m0 m1 => eqAt_tr (eqAt_tr (eqAt_nw (m1 9 (by decide) (by decide))) (g4 m (fun j j0 j1 => m1 j j0 j1))) (eqAt_sr m0)
    have hRf0 : RRf (sr h3 606 (nS s) (some (nS s + 9))) s := RRf_at (fun j j0 j1 => eqAt_sr (by omega)) g1
    have hSo0 : zr (sr h3 606 (nS s) (some (nS s + 9))) 606 (nS s) = some (nS s + 9) := z2_eq
    have tk0 : zf (sr h3 606 (nS s) (some (nS s + 9))) 505 (nS s + 9) = S 32 s := g2.trans z32.symm
    have K6b : zK (sr h3 606 (nS s) (some (nS s + 9))) (nS s) = 6 + 1 := e0.1.trans o1
    have hSof : ∀ i, i ≠ 606 → zr (sr h3 606 (nS s) (some (nS s + 9))) i (nS s) = zr h i (nS s) ∧ zf (sr h3 606 (nS s) (some (nS s + 9))) i (nS s) = zf h i (nS s) := fun i hi => ⟨(show z2 (zr h3) 606 (nS s) (some (nS s + 9)) i (nS s) = zr h i (nS s) from (z2_ni hi).trans (e0.2.2.2.2.1 i)), e0.2.2.1 i⟩
    generalize sr h3 606 (nS s) (some (nS s + 9)) = h0 at fr0 hRf0 hSo0 tk0 K6b hSof ⊢
    refine e_aload_n dX8_record_24 rfl rfl ?_
    refine e_getR dX8_record_25 flX8_298 rfl K6b hSo0 ?_
    refine e_getI dX8_record_28 flX8_305 rfl (show zK _ (nS s + 9) = 5 + 1 from hRf0.1.1) tk0 (fun r28 => ?_)
    refine e_istore_n dX8_record_31 rfl (by decide) rfl rfl ?_
    refine e_aload_n dX8_record_32 rfl rfl ?_
    refine e_getR dX8_record_33 flX8_298 rfl K6b hSo0 ?_
    refine e_callV (As := []) (cb := 5) dX8_record_36 moX4_begin mvX4_begin mlX8_308 (by decide) rfl (show zK _ (nS s + 9) = 5 + 1 from hRf0.1.1) rfl (Nat.le_of_ble_eq_true rfl) ⟨by decide, by decide, by decide, by decide⟩ (c_X4_begin hl (S := recB S s) hRf0 recB_32) (fun E h1 q => by cases q.1) (fun v h1 q => ?_)
    obtain ⟨e1, hX9, hf9⟩ := q; cases e1
    rename zH => h8
    have hI4 := I4_record (II_4 hI) hs0.2
    have fr : ∀ m, m ≠ nS s → (∀ j, 9 ≤ j → j ≤ 14 → m ≠ nS s + j) → eqAt m h h8 := fun m m0 m1 => eqAt_tr (fr0 m m0 m1) (hf9 m (m1 9 (by decide) (by decide)) (m1 13 (by decide) (by decide)))
    have hRR : RR (recB S s) h8 s := RRx_eq recB_33 (fun _ _ _ => rfl) rfl (fun _ _ _ _ _ _ => rfl) hX9
    have e8 := hf9 (nS s) (by omega) (by omega)
    have hSo8 : RSo (recB S s) h8 s := by
      refine ⟨e8.1.trans K6b, (e8.2.2.2.2.1 _).trans ((hSof 600 (by decide)).1.trans o2), (e8.2.2.2.2.1 _).trans ((hSof 601 (by decide)).1.trans o3), (e8.2.2.2.2.1 _).trans ((hSof 602 (by decide)).1.trans o4), (e8.2.2.2.2.1 _).trans ((hSof 603 (by decide)).1.trans o5), (e8.2.2.2.2.1 _).trans ((hSof 604 (by decide)).1.trans o6), (e8.2.2.2.2.1 _).trans ((hSof 605 (by decide)).1.trans o7), ?_, (e8.2.2.1 _).trans ((hSof 607 (by decide)).2.trans (o9.trans (recB_f (by decide)).symm))⟩
      rw [recB_31, if_pos rfl]
      exact (e8.2.2.2.2.1 _).trans hSo0
    have hfin : RC (recB S s) h8 := RC_rec (IJ_II hI) hI4.1 hs0 s4 (fun f hf j => recB_f (by omega)) recB_e fr hSo8 (fun _ => hRR) (fun z => absurd recB_31 z) hR
    refine e_iload_n dX8_record_39 rfl rfl ?_
    refine e_iret dX8_record_40 rfl trivial (by decide) (by decide) ?_
    exact QC_ok (by first | (rw [if_neg (by omega)]; done) | (rw [if_neg (by omega), if_neg (by omega)]; done) | (rw [if_neg (by omega), if_neg (by omega), if_neg (by omega)]; done) | (rw [if_neg (by omega), if_neg (by omega), if_neg (by omega), if_neg (by omega)]; done)) rfl (fun m hm => fr m (by unfold nS; omega) (fun j _ _ => by unfold nS; omega)) hfin
