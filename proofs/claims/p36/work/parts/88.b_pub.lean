set_option maxHeartbeats 4000000 in
set_option maxRecDepth 100000 in
theorem c_X8_screen {l : Launch} (hl : l.stackTraces = false) {S : S9} {h : zH} {B : Int} (hR : RC S h) (hI : II S B) (s : Int) (hsz : zin s) (x : Int) (hxz : zin x) (y : Int) (hyz : zin y)  : zC l MX8_screen [zR (some 2), zI s, zI x, zI y] h (QC S h (if ¬ (isS S s ∧ isXY x y) then 1 else 0) [exI] (zI (screenAt S s (y * 12 + x))) S) := by
  refine zC_of hl rfl rfl (by decide) rfl rfl (Nat.le_of_ble_eq_true rfl) ?_
  have hN : IN S := hI.1.1
  have hIW : IW S := hI.1.2.1
  have hIO : IO S := hI.1.2.2.1
  have hIC : IC S := hI.1.2.2.2.1
  have hIK : IK S := hI.1.2.2.2.2
  have hB3 := hI.2.2.1
  have hbt := hI.2.2.2.2
  obtain ⟨⟨⟨p1, p2, p3, p4, p5⟩, ⟨y1, y2, y3⟩, ⟨x1, x2, x3⟩, v1, v2, v3⟩, hRs, hRc, hRf⟩ := id hR
  obtain ⟨n1, n2, n3, n4, n5⟩ := id hN
  refine e_aload_n dX8_screen_0 rfl rfl ?_
  refine e_iload_n dX8_screen_1 rfl rfl ?_
  refine e_callV (As := [zI _]) (cb := 9) dX8_screen_2 moX8_sessionAt mvX8_sessionAt mlX8_37 (by decide) rfl (show zK _ 2 = 9 + 1 from p1) rfl (Nat.le_of_ble_eq_true rfl) ⟨by decide, by decide, by decide, by decide⟩ (c_X8_sessionAt hl hR hN s hsz) (fun E h9 q => by (obtain ⟨e2, hz, e1⟩ := Qat_r q); subst e1; subst e2; exact AX_out rfl (by decide) (by decide) (QC_no (x := 1) (by first | (rw [if_pos (by omega)]; done) | (rw [if_neg (by omega), if_pos (by omega)]; done) | (rw [if_neg (by omega), if_neg (by omega), if_pos (by omega)]; done) | (rw [if_neg (by omega), if_neg (by omega), if_neg (by omega), if_pos (by omega)]; done)) (by decide) rfl (fun _ _ => eqAt_rf) hR)) (fun v h9 q => ?_)
  obtain ⟨e2, hs0, e1⟩ := Qat_l q; cases e1; rw [e2]; clear q e2 h9
  obtain ⟨hV, ⟨ed, cp, kn, hK⟩, hC, hWn, hCp, hT, hRr, hRr0⟩ := hRs s hs0
  obtain ⟨⟨s0, s4⟩, -, -, -, hSo, hP, hWs⟩ := id hV
  obtain ⟨o1, o2, o3, o4, o5, o6, o7, o8, o9⟩ := id hSo
  have hb4 := n5 s s0 s4
  have K6 : zK h (nS s) = 6 + 1 := o1
  refine e_astore dX8_screen_5 (by decide) rfl rfl ?_
  refine e_aload dX8_screen_7 rfl ?_
  refine e_getR dX8_screen_9 flX8_124 rfl K6 o5 ?_
  refine e_iload_n dX8_screen_12 rfl rfl ?_
  refine e_iload_n dX8_screen_13 rfl rfl ?_
  refine e_callS (As := [zI _, zI _]) dX8_screen_14 moX8_screenCell msX8_screenCell mlX8_128 rfl (Nat.le_of_ble_eq_true rfl) ⟨by decide, by decide, by decide, by decide⟩ (show zC l MX8_screenCell [zI x, zI y] h (Qat (isXY x y) (zI (y * 12 + x)) exI h) from c_X8_screenCell hl x y hxz hyz) (fun E h9 q => by (obtain ⟨e2, hz, e1⟩ := Qat_r q); subst e1; subst e2; exact AX_out rfl (by decide) (by decide) (QC_no (x := 1) (by first | (rw [if_pos (by omega)]; done) | (rw [if_neg (by omega), if_pos (by omega)]; done) | (rw [if_neg (by omega), if_neg (by omega), if_pos (by omega)]; done) | (rw [if_neg (by omega), if_neg (by omega), if_neg (by omega), if_pos (by omega)]; done)) (by decide) rfl (fun _ _ => eqAt_rf) hR)) (fun v h9 q => ?_)
  obtain ⟨e2, hxy, e1⟩ := Qat_l q; cases e1; rw [e2]; clear q e2 h9
  refine e_iald dX8_screen_17 hC.1 (by omega) (by rw [hC.2.1]; omega) (hC.2.2 _ (by omega) (by omega)) (fun r17 => ?_)
  refine e_iret dX8_screen_18 rfl trivial (by decide) (by decide) ?_
  exact QC_ok (by first | (rw [if_neg (by omega)]; done) | (rw [if_neg (by omega), if_neg (by omega)]; done) | (rw [if_neg (by omega), if_neg (by omega), if_neg (by omega)]; done) | (rw [if_neg (by omega), if_neg (by omega), if_neg (by omega), if_neg (by omega)]; done)) rfl (fun _ _ => eqAt_rf) hR
set_option maxHeartbeats 4000000 in
set_option maxRecDepth 100000 in
theorem c_X8_money {l : Launch} (hl : l.stackTraces = false) {S : S9} {h : zH} {B : Int} (hR : RC S h) (hI : II S B) (c : Int) (hcz : zin c)  : zC l MX8_money [zR (some 2), zI c] h (QC S h (if ¬ isC S c then 1 else 0) [exI] (zI (S 37 c)) S) := by
  refine zC_of hl rfl rfl (by decide) rfl rfl (Nat.le_of_ble_eq_true rfl) ?_
  have hN : IN S := hI.1.1
  have hIW : IW S := hI.1.2.1
  have hIO : IO S := hI.1.2.2.1
  have hIC : IC S := hI.1.2.2.2.1
  have hIK : IK S := hI.1.2.2.2.2
  have hB3 := hI.2.2.1
  have hbt := hI.2.2.2.2
  obtain ⟨⟨⟨p1, p2, p3, p4, p5⟩, ⟨y1, y2, y3⟩, ⟨x1, x2, x3⟩, v1, v2, v3⟩, hRs, hRc, hRf⟩ := id hR
  obtain ⟨n1, n2, n3, n4, n5⟩ := id hN
  refine e_aload_n dX8_money_0 rfl rfl ?_
  refine e_iload_n dX8_money_1 rfl rfl ?_
  refine e_callV (As := [zI _]) (cb := 9) dX8_money_2 moX8_clientAt mvX8_clientAt mlX8_139 (by decide) rfl (show zK _ 2 = 9 + 1 from p1) rfl (Nat.le_of_ble_eq_true rfl) ⟨by decide, by decide, by decide, by decide⟩ (c_X8_clientAt hl hR hN c hcz) (fun E h9 q => by (obtain ⟨e2, hz, e1⟩ := Qat_r q); subst e1; subst e2; exact AX_out rfl (by decide) (by decide) (QC_no (x := 1) (by first | (rw [if_pos (by omega)]; done) | (rw [if_neg (by omega), if_pos (by omega)]; done) | (rw [if_neg (by omega), if_neg (by omega), if_pos (by omega)]; done) | (rw [if_neg (by omega), if_neg (by omega), if_neg (by omega), if_pos (by omega)]; done)) (by decide) rfl (fun _ _ => eqAt_rf) hR)) (fun v h9 q => ?_)
  obtain ⟨e2, hc0, e1⟩ := Qat_l q; cases e1; rw [e2]; clear q e2 h9
  obtain ⟨hCl, hCh⟩ := hRc c hc0
  obtain ⟨r1, r2, r3, r4, r5, r6, r7, r8⟩ := id hCl
  have K3 : zK h (nC c) = 2 + 1 := r1
  refine e_getI dX8_money_5 flX8_146 rfl K3 r6 (fun r5 => ?_)
  refine e_iret dX8_money_8 rfl trivial (by decide) (by decide) ?_
  exact QC_ok (by first | (rw [if_neg (by omega)]; done) | (rw [if_neg (by omega), if_neg (by omega)]; done) | (rw [if_neg (by omega), if_neg (by omega), if_neg (by omega)]; done) | (rw [if_neg (by omega), if_neg (by omega), if_neg (by omega), if_neg (by omega)]; done)) rfl (fun _ _ => eqAt_rf) hR
set_option maxHeartbeats 4000000 in
set_option maxRecDepth 100000 in
theorem c_X8_picture {l : Launch} (hl : l.stackTraces = false) {S : S9} {h : zH} {B : Int} (hR : RC S h) (hI : II S B) (c : Int) (hcz : zin c) (x : Int) (hxz : zin x) (y : Int) (hyz : zin y)  : zC l MX8_picture [zR (some 2), zI c, zI x, zI y] h (QC S h (if ¬ (isC S c ∧ isXY x y) then 1 else 0) [exI] (zI (S 40 (96 * c + (y * 12 + x)))) S) := by
  refine zC_of hl rfl rfl (by decide) rfl rfl (Nat.le_of_ble_eq_true rfl) ?_
  have hN : IN S := hI.1.1
  have hIW : IW S := hI.1.2.1
  have hIO : IO S := hI.1.2.2.1
  have hIC : IC S := hI.1.2.2.2.1
  have hIK : IK S := hI.1.2.2.2.2
  have hB3 := hI.2.2.1
  have hbt := hI.2.2.2.2
  obtain ⟨⟨⟨p1, p2, p3, p4, p5⟩, ⟨y1, y2, y3⟩, ⟨x1, x2, x3⟩, v1, v2, v3⟩, hRs, hRc, hRf⟩ := id hR
  obtain ⟨n1, n2, n3, n4, n5⟩ := id hN
  refine e_aload_n dX8_picture_0 rfl rfl ?_
  refine e_iload_n dX8_picture_1 rfl rfl ?_
  refine e_callV (As := [zI _]) (cb := 9) dX8_picture_2 moX8_clientAt mvX8_clientAt mlX8_139 (by decide) rfl (show zK _ 2 = 9 + 1 from p1) rfl (Nat.le_of_ble_eq_true rfl) ⟨by decide, by decide, by decide, by decide⟩ (c_X8_clientAt hl hR hN c hcz) (fun E h9 q => by (obtain ⟨e2, hz, e1⟩ := Qat_r q); subst e1; subst e2; exact AX_out rfl (by decide) (by decide) (QC_no (x := 1) (by first | (rw [if_pos (by omega)]; done) | (rw [if_neg (by omega), if_pos (by omega)]; done) | (rw [if_neg (by omega), if_neg (by omega), if_pos (by omega)]; done) | (rw [if_neg (by omega), if_neg (by omega), if_neg (by omega), if_pos (by omega)]; done)) (by decide) rfl (fun _ _ => eqAt_rf) hR)) (fun v h9 q => ?_)
  obtain ⟨e2, hc0, e1⟩ := Qat_l q; cases e1; rw [e2]; clear q e2 h9
  obtain ⟨hCl, hCh⟩ := hRc c hc0
  obtain ⟨r1, r2, r3, r4, r5, r6, r7, r8⟩ := id hCl
  have K3 : zK h (nC c) = 2 + 1 := r1
  refine e_astore dX8_picture_5 (by decide) rfl rfl ?_
  refine e_aload dX8_picture_7 rfl ?_
  refine e_getR dX8_picture_9 flX8_149 rfl K3 r3 ?_
  refine e_iload_n dX8_picture_12 rfl rfl ?_
  refine e_iload_n dX8_picture_13 rfl rfl ?_
  refine e_callS (As := [zI _, zI _]) dX8_picture_14 moX8_screenCell msX8_screenCell mlX8_128 rfl (Nat.le_of_ble_eq_true rfl) ⟨by decide, by decide, by decide, by decide⟩ (show zC l MX8_screenCell [zI x, zI y] h (Qat (isXY x y) (zI (y * 12 + x)) exI h) from c_X8_screenCell hl x y hxz hyz) (fun E h9 q => by (obtain ⟨e2, hz, e1⟩ := Qat_r q); subst e1; subst e2; exact AX_out rfl (by decide) (by decide) (QC_no (x := 1) (by first | (rw [if_pos (by omega)]; done) | (rw [if_neg (by omega), if_pos (by omega)]; done) | (rw [if_neg (by omega), if_neg (by omega), if_pos (by omega)]; done) | (rw [if_neg (by omega), if_neg (by omega), if_neg (by omega), if_pos (by omega)]; done)) (by decide) rfl (fun _ _ => eqAt_rf) hR)) (fun v h9 q => ?_)
  obtain ⟨e2, hxy, e1⟩ := Qat_l q; cases e1; rw [e2]; clear q e2 h9
  refine e_iald dX8_picture_17 hCh.1.2.1 (by omega) (by rw [hCh.1.2.2.1]; omega) (hCh.1.2.2.2 _ (by omega) (by omega)) (fun r17 => ?_)
  refine e_iret dX8_picture_18 rfl trivial (by decide) (by decide) ?_
  exact QC_ok (by first | (rw [if_neg (by omega)]; done) | (rw [if_neg (by omega), if_neg (by omega)]; done) | (rw [if_neg (by omega), if_neg (by omega), if_neg (by omega)]; done) | (rw [if_neg (by omega), if_neg (by omega), if_neg (by omega), if_neg (by omega)]; done)) rfl (fun _ _ => eqAt_rf) hR
set_option maxHeartbeats 4000000 in
set_option maxRecDepth 100000 in
theorem c_X8_behind {l : Launch} (hl : l.stackTraces = false) {S : S9} {h : zH} {B : Int} (hR : RC S h) (hI : II S B) (c : Int) (hcz : zin c)  : zC l MX8_behind [zR (some 2), zI c] h (QC S h (if ¬ isC S c then 1 else 0) [exI] (zI (cntB S c)) S) := by
  refine zC_of hl rfl rfl (by decide) rfl rfl (Nat.le_of_ble_eq_true rfl) ?_
  have hN : IN S := hI.1.1
  have hIW : IW S := hI.1.2.1
  have hIO : IO S := hI.1.2.2.1
  have hIC : IC S := hI.1.2.2.2.1
  have hIK : IK S := hI.1.2.2.2.2
  have hB3 := hI.2.2.1
  have hbt := hI.2.2.2.2
  obtain ⟨⟨⟨p1, p2, p3, p4, p5⟩, ⟨y1, y2, y3⟩, ⟨x1, x2, x3⟩, v1, v2, v3⟩, hRs, hRc, hRf⟩ := id hR
  obtain ⟨n1, n2, n3, n4, n5⟩ := id hN
  refine e_aload_n dX8_behind_0 rfl rfl ?_
  refine e_iload_n dX8_behind_1 rfl rfl ?_
  refine e_callV (As := [zI _]) (cb := 9) dX8_behind_2 moX8_clientAt mvX8_clientAt mlX8_139 (by decide) rfl (show zK _ 2 = 9 + 1 from p1) rfl (Nat.le_of_ble_eq_true rfl) ⟨by decide, by decide, by decide, by decide⟩ (c_X8_clientAt hl hR hN c hcz) (fun E h9 q => by (obtain ⟨e2, hz, e1⟩ := Qat_r q); subst e1; subst e2; exact AX_out rfl (by decide) (by decide) (QC_no (x := 1) (by first | (rw [if_pos (by omega)]; done) | (rw [if_neg (by omega), if_pos (by omega)]; done) | (rw [if_neg (by omega), if_neg (by omega), if_pos (by omega)]; done) | (rw [if_neg (by omega), if_neg (by omega), if_neg (by omega), if_pos (by omega)]; done)) (by decide) rfl (fun _ _ => eqAt_rf) hR)) (fun v h9 q => ?_)
  obtain ⟨e2, hc0, e1⟩ := Qat_l q; cases e1; rw [e2]; clear q e2 h9
  obtain ⟨hCl, hCh⟩ := hRc c hc0
  obtain ⟨r1, r2, r3, r4, r5, r6, r7, r8⟩ := id hCl
  have K3 : zK h (nC c) = 2 + 1 := r1
  have hcs := hIC c hc0.1 hc0.2
  obtain ⟨hV, ⟨ed, cp, kn, hK⟩, hC, hWn, hCp, hT, hRr, hRr0⟩ := hRs (S 35 c) ⟨hcs.1, hcs.2⟩
  obtain ⟨⟨s0, s4⟩, -, -, -, hSo, hP, hWs⟩ := id hV
  refine e_callV (As := []) (cb := 2) dX8_behind_5 moX1_countBehind mvX1_countBehind mlX8_163 (by decide) rfl K3 rfl (Nat.le_of_ble_eq_true rfl) ⟨by decide, by decide, by decide, by decide⟩ (c_X1_countBehind hl hCh.1 hC hCl) (fun E h1 q => by cases q.1) (fun v h9 q => ?_)
  obtain ⟨e1, e2⟩ := q; cases e1; rw [e2]; clear e2 h9
  refine e_iret dX8_behind_8 rfl trivial (by decide) (by decide) ?_
  exact QC_ok (by first | (rw [if_neg (by omega)]; done) | (rw [if_neg (by omega), if_neg (by omega)]; done) | (rw [if_neg (by omega), if_neg (by omega), if_neg (by omega)]; done) | (rw [if_neg (by omega), if_neg (by omega), if_neg (by omega), if_neg (by omega)]; done)) rfl (fun _ _ => eqAt_rf) hR
set_option maxHeartbeats 4000000 in
set_option maxRecDepth 100000 in
theorem c_X8_guesses {l : Launch} (hl : l.stackTraces = false) {S : S9} {h : zH} {B : Int} (hR : RC S h) (hI : II S B) (c : Int) (hcz : zin c)  : zC l MX8_guesses [zR (some 2), zI c] h (QC S h (if ¬ isC S c then 1 else 0) [exI] (zI (gues S c)) S) := by
  refine zC_of hl rfl rfl (by decide) rfl rfl (Nat.le_of_ble_eq_true rfl) ?_
  have hN : IN S := hI.1.1
  have hIW : IW S := hI.1.2.1
  have hIO : IO S := hI.1.2.2.1
  have hIC : IC S := hI.1.2.2.2.1
  have hIK : IK S := hI.1.2.2.2.2
  have hB3 := hI.2.2.1
  have hbt := hI.2.2.2.2
  obtain ⟨⟨⟨p1, p2, p3, p4, p5⟩, ⟨y1, y2, y3⟩, ⟨x1, x2, x3⟩, v1, v2, v3⟩, hRs, hRc, hRf⟩ := id hR
  obtain ⟨n1, n2, n3, n4, n5⟩ := id hN
  refine e_aload_n dX8_guesses_0 rfl rfl ?_
  refine e_iload_n dX8_guesses_1 rfl rfl ?_
  refine e_callV (As := [zI _]) (cb := 9) dX8_guesses_2 moX8_clientAt mvX8_clientAt mlX8_139 (by decide) rfl (show zK _ 2 = 9 + 1 from p1) rfl (Nat.le_of_ble_eq_true rfl) ⟨by decide, by decide, by decide, by decide⟩ (c_X8_clientAt hl hR hN c hcz) (fun E h9 q => by (obtain ⟨e2, hz, e1⟩ := Qat_r q); subst e1; subst e2; exact AX_out rfl (by decide) (by decide) (QC_no (x := 1) (by first | (rw [if_pos (by omega)]; done) | (rw [if_neg (by omega), if_pos (by omega)]; done) | (rw [if_neg (by omega), if_neg (by omega), if_pos (by omega)]; done) | (rw [if_neg (by omega), if_neg (by omega), if_neg (by omega), if_pos (by omega)]; done)) (by decide) rfl (fun _ _ => eqAt_rf) hR)) (fun v h9 q => ?_)
  obtain ⟨e2, hc0, e1⟩ := Qat_l q; cases e1; rw [e2]; clear q e2 h9
  obtain ⟨hCl, hCh⟩ := hRc c hc0
  obtain ⟨r1, r2, r3, r4, r5, r6, r7, r8⟩ := id hCl
  have K3 : zK h (nC c) = 2 + 1 := r1
  have hcs := hIC c hc0.1 hc0.2
  obtain ⟨hV, ⟨ed, cp, kn, hK⟩, hC, hWn, hCp, hT, hRr, hRr0⟩ := hRs (S 35 c) ⟨hcs.1, hcs.2⟩
  obtain ⟨⟨s0, s4⟩, -, -, -, hSo, hP, hWs⟩ := id hV
  refine e_astore_n dX8_guesses_5 rfl (by decide) rfl rfl ?_
  refine e_aload_n dX8_guesses_6 rfl rfl ?_
  refine e_getR dX8_guesses_7 flX8_150 rfl K3 r2 ?_
  refine e_aload_n dX8_guesses_10 rfl rfl ?_
  refine e_callV (As := [zR _]) (cb := 6) dX8_guesses_11 moX5_countKeysBy mvX5_countKeysBy mlX8_213 (by decide) rfl (show zK h (nS (S 35 c)) = 6 + 1 from hSo.1) rfl (Nat.le_of_ble_eq_true rfl) ⟨by decide, by decide, by decide, by decide⟩ (c_X5_countKeysBy hl hSo hK s0 s4 hN hIK c hc0.1) (fun E h1 q => by cases q.1) (fun v h9 q => ?_)
  obtain ⟨e1, e2⟩ := q; cases e1; rw [e2]; clear e2 h9
  refine e_iret dX8_guesses_14 rfl trivial (by decide) (by decide) ?_
  exact QC_ok (by first | (rw [if_neg (by omega)]; done) | (rw [if_neg (by omega), if_neg (by omega)]; done) | (rw [if_neg (by omega), if_neg (by omega), if_neg (by omega)]; done) | (rw [if_neg (by omega), if_neg (by omega), if_neg (by omega), if_neg (by omega)]; done)) rfl (fun _ _ => eqAt_rf) hR
set_option maxHeartbeats 4000000 in
set_option maxRecDepth 100000 in
theorem c_X8_host {l : Launch} (hl : l.stackTraces = false) {S : S9} {h : zH} {B : Int} (hR : RC S h) (hI : II S B) (s : Int) (hsz : zin s)  : zC l MX8_host [zR (some 2), zI s] h (QC S h (if ¬ isS S s then 1 else 0) [exI] (zI (S 28 s)) S) := by
  refine zC_of hl rfl rfl (by decide) rfl rfl (Nat.le_of_ble_eq_true rfl) ?_
  have hN : IN S := hI.1.1
  have hIW : IW S := hI.1.2.1
  have hIO : IO S := hI.1.2.2.1
  have hIC : IC S := hI.1.2.2.2.1
  have hIK : IK S := hI.1.2.2.2.2
  have hB3 := hI.2.2.1
  have hbt := hI.2.2.2.2
  obtain ⟨⟨⟨p1, p2, p3, p4, p5⟩, ⟨y1, y2, y3⟩, ⟨x1, x2, x3⟩, v1, v2, v3⟩, hRs, hRc, hRf⟩ := id hR
  obtain ⟨n1, n2, n3, n4, n5⟩ := id hN
  refine e_aload_n dX8_host_0 rfl rfl ?_
  refine e_iload_n dX8_host_1 rfl rfl ?_
  refine e_callV (As := [zI _]) (cb := 9) dX8_host_2 moX8_sessionAt mvX8_sessionAt mlX8_37 (by decide) rfl (show zK _ 2 = 9 + 1 from p1) rfl (Nat.le_of_ble_eq_true rfl) ⟨by decide, by decide, by decide, by decide⟩ (c_X8_sessionAt hl hR hN s hsz) (fun E h9 q => by (obtain ⟨e2, hz, e1⟩ := Qat_r q); subst e1; subst e2; exact AX_out rfl (by decide) (by decide) (QC_no (x := 1) (by first | (rw [if_pos (by omega)]; done) | (rw [if_neg (by omega), if_pos (by omega)]; done) | (rw [if_neg (by omega), if_neg (by omega), if_pos (by omega)]; done) | (rw [if_neg (by omega), if_neg (by omega), if_neg (by omega), if_pos (by omega)]; done)) (by decide) rfl (fun _ _ => eqAt_rf) hR)) (fun v h9 q => ?_)
  obtain ⟨e2, hs0, e1⟩ := Qat_l q; cases e1; rw [e2]; clear q e2 h9
  obtain ⟨hV, ⟨ed, cp, kn, hK⟩, hC, hWn, hCp, hT, hRr, hRr0⟩ := hRs s hs0
  obtain ⟨⟨s0, s4⟩, -, -, -, hSo, hP, hWs⟩ := id hV
  obtain ⟨o1, o2, o3, o4, o5, o6, o7, o8, o9⟩ := id hSo
  have hb4 := n5 s s0 s4
  have K6 : zK h (nS s) = 6 + 1 := o1
  refine e_getR dX8_host_5 flX8_275 rfl K6 o7 ?_
  refine e_getI dX8_host_8 flX8_289 rfl (show zK h (nS s + 6) = 7 + 1 from hT.1.1) hT.1.2.2.2.2 (fun r8 => ?_)
  refine e_iret dX8_host_11 rfl trivial (by decide) (by decide) ?_
  exact QC_ok (by first | (rw [if_neg (by omega)]; done) | (rw [if_neg (by omega), if_neg (by omega)]; done) | (rw [if_neg (by omega), if_neg (by omega), if_neg (by omega)]; done) | (rw [if_neg (by omega), if_neg (by omega), if_neg (by omega), if_neg (by omega)]; done)) rfl (fun _ _ => eqAt_rf) hR
set_option maxHeartbeats 4000000 in
set_option maxRecDepth 100000 in
theorem c_X8_left {l : Launch} (hl : l.stackTraces = false) {S : S9} {h : zH} {B : Int} (hR : RC S h) (hI : II S B) (s : Int) (hsz : zin s)  : zC l MX8_left [zR (some 2), zI s] h (QC S h (if ¬ isS S s then 1 else if ¬ S 26 s = 1 then 2 else 0) [exI, exS] (zI (cntL S s)) S) := by
  refine zC_of hl rfl rfl (by decide) rfl rfl (Nat.le_of_ble_eq_true rfl) ?_
  have hN : IN S := hI.1.1
  have hIW : IW S := hI.1.2.1
  have hIO : IO S := hI.1.2.2.1
  have hIC : IC S := hI.1.2.2.2.1
  have hIK : IK S := hI.1.2.2.2.2
  have hB3 := hI.2.2.1
  have hbt := hI.2.2.2.2
  obtain ⟨⟨⟨p1, p2, p3, p4, p5⟩, ⟨y1, y2, y3⟩, ⟨x1, x2, x3⟩, v1, v2, v3⟩, hRs, hRc, hRf⟩ := id hR
  obtain ⟨n1, n2, n3, n4, n5⟩ := id hN
  refine e_aload_n dX8_left_0 rfl rfl ?_
  refine e_iload_n dX8_left_1 rfl rfl ?_
  refine e_callV (As := [zI _]) (cb := 9) dX8_left_2 moX8_sessionAt mvX8_sessionAt mlX8_37 (by decide) rfl (show zK _ 2 = 9 + 1 from p1) rfl (Nat.le_of_ble_eq_true rfl) ⟨by decide, by decide, by decide, by decide⟩ (c_X8_sessionAt hl hR hN s hsz) (fun E h9 q => by (obtain ⟨e2, hz, e1⟩ := Qat_r q); subst e1; subst e2; exact AX_out rfl (by decide) (by decide) (QC_no (x := 1) (by first | (rw [if_pos (by omega)]; done) | (rw [if_neg (by omega), if_pos (by omega)]; done) | (rw [if_neg (by omega), if_neg (by omega), if_pos (by omega)]; done) | (rw [if_neg (by omega), if_neg (by omega), if_neg (by omega), if_pos (by omega)]; done)) (by decide) rfl (fun _ _ => eqAt_rf) hR)) (fun v h9 q => ?_)
  obtain ⟨e2, hs0, e1⟩ := Qat_l q; cases e1; rw [e2]; clear q e2 h9
  obtain ⟨hV, ⟨ed, cp, kn, hK⟩, hC, hWn, hCp, hT, hRr, hRr0⟩ := hRs s hs0
  obtain ⟨⟨s0, s4⟩, -, -, -, hSo, hP, hWs⟩ := id hV
  obtain ⟨o1, o2, o3, o4, o5, o6, o7, o8, o9⟩ := id hSo
  have hb4 := n5 s s0 s4
  have K6 : zK h (nS s) = 6 + 1 := o1
  have b26 := hbt 26 (by decide) s
  refine e_astore_n dX8_left_5 rfl (by decide) rfl rfl ?_
  refine e_aload_n dX8_left_6 rfl rfl ?_
  refine e_getR dX8_left_7 flX8_275 rfl K6 o7 ?_
  refine e_getI dX8_left_10 flX8_279 rfl (show zK h (nS s + 6) = 7 + 1 from hT.1.1) hT.1.2.2.2.1 (fun r10 => ?_)
  refine e_if_ne (tgt := 27) dX8_left_13 (by decide) (by omega) (fun c13 => ?_) (fun c13 => ?_)
  · skip
    try simp only [b2_0, b2_n0] at c13
    refine e_aload_n dX8_left_27 rfl rfl ?_
    refine e_getR dX8_left_28 flX8_275 rfl K6 o7 ?_
    refine e_aload_n dX8_left_31 rfl rfl ?_
    refine e_getR dX8_left_32 flX8_124 rfl K6 o5 ?_
    refine e_callV (As := [zR _]) (cb := 7) dX8_left_35 moX6_countRowsLeft mvX6_countRowsLeft mlX8_294 (by decide) rfl (show zK h (nS s + 6) = 7 + 1 from hT.1.1) rfl (Nat.le_of_ble_eq_true rfl) ⟨by decide, by decide, by decide, by decide⟩ (c_X6_countRowsLeft hl hT hC (hbt 29 (by decide))) (fun E h1 q => by cases q.1) (fun v h9 q => ?_)
    obtain ⟨e1, e2⟩ := q; cases e1; rw [e2]; clear e2 h9
    refine e_iret dX8_left_38 rfl trivial (by decide) (by decide) ?_
    exact QC_ok (by first | (rw [if_neg (by omega)]; done) | (rw [if_neg (by omega), if_neg (by omega)]; done) | (rw [if_neg (by omega), if_neg (by omega), if_neg (by omega)]; done) | (rw [if_neg (by omega), if_neg (by omega), if_neg (by omega), if_neg (by omega)]; done)) rfl (fun _ _ => eqAt_rf) hR
  · skip
    try simp only [b2_0, b2_n0] at c13
    refine e_throwW (cls := "java/lang/IllegalStateException") (text := "the session is not moving") dX8_left_16 dX8_left_19 dX8_left_20 dX8_left_23 dX8_left_26 (by decide +kernel) txX8_30 txI_IllegalStateException (by decide +kernel) (by decide +kernel) zatX8_34 rfl (by decide) (by decide) (Nat.le_of_ble_eq_true rfl) (by decide) (by decide) ?_
    first
      | exact QC_no (x := 1) (by first | (rw [if_pos (by omega)]; done) | (rw [if_neg (by omega), if_pos (by omega)]; done) | (rw [if_neg (by omega), if_neg (by omega), if_pos (by omega)]; done) | (rw [if_neg (by omega), if_neg (by omega), if_neg (by omega), if_pos (by omega)]; done)) (by decide) rfl (fun _ _ => eqAt_rf) hR
      | exact QC_no (x := 2) (by first | (rw [if_pos (by omega)]; done) | (rw [if_neg (by omega), if_pos (by omega)]; done) | (rw [if_neg (by omega), if_neg (by omega), if_pos (by omega)]; done) | (rw [if_neg (by omega), if_neg (by omega), if_neg (by omega), if_pos (by omega)]; done)) (by decide) rfl (fun _ _ => eqAt_rf) hR
set_option maxHeartbeats 4000000 in
set_option maxRecDepth 100000 in
theorem c_X8_carried {l : Launch} (hl : l.stackTraces = false) {S : S9} {h : zH} {B : Int} (hR : RC S h) (hI : II S B)  : zC l MX8_carried [zR (some 2)] h (fun o h' => o = .inl (some (zL (S 3 0))) ∧ h' = h) := by
  refine zC_of hl rfl rfl (by decide) rfl rfl (Nat.le_of_ble_eq_true rfl) ?_
  have hN : IN S := hI.1.1
  have hIW : IW S := hI.1.2.1
  have hIO : IO S := hI.1.2.2.1
  have hIC : IC S := hI.1.2.2.2.1
  have hIK : IK S := hI.1.2.2.2.2
  have hB3 := hI.2.2.1
  have hbt := hI.2.2.2.2
  obtain ⟨⟨⟨p1, p2, p3, p4, p5⟩, ⟨y1, y2, y3⟩, ⟨x1, x2, x3⟩, v1, v2, v3⟩, hRs, hRc, hRf⟩ := id hR
  obtain ⟨n1, n2, n3, n4, n5⟩ := id hN
  refine e_aload_n dX8_carried_0 rfl rfl ?_
  refine e_getL dX8_carried_1 flX8_25 rfl (show zK _ 2 = 9 + 1 from p1) p5 ?_
  refine e_lret dX8_carried_4 rfl (by decide) (by decide) ?_
  exact ⟨rfl, rfl⟩
set_option maxHeartbeats 4000000 in
set_option maxRecDepth 100000 in
theorem c_X8_seen {l : Launch} (hl : l.stackTraces = false) {S : S9} {h : zH} {B : Int} (hR : RC S h) (hI : II S B) (c : Int) (hcz : zin c) (x : Int) (hxz : zin x) (y : Int) (hyz : zin y)  : zC l MX8_seen [zR (some 2), zI c, zI x, zI y] h (QC S h (if ¬ (isC S c ∧ isXY x y) then 1 else 0) [exI] (zI (seen S c (y * 12 + x))) S) := by
  refine zC_of hl rfl rfl (by decide) rfl rfl (Nat.le_of_ble_eq_true rfl) ?_
  have hN : IN S := hI.1.1
  have hIW : IW S := hI.1.2.1
  have hIO : IO S := hI.1.2.2.1
  have hIC : IC S := hI.1.2.2.2.1
  have hIK : IK S := hI.1.2.2.2.2
  have hB3 := hI.2.2.1
  have hbt := hI.2.2.2.2
  obtain ⟨⟨⟨p1, p2, p3, p4, p5⟩, ⟨y1, y2, y3⟩, ⟨x1, x2, x3⟩, v1, v2, v3⟩, hRs, hRc, hRf⟩ := id hR
  obtain ⟨n1, n2, n3, n4, n5⟩ := id hN
  refine e_aload_n dX8_seen_0 rfl rfl ?_
  refine e_iload_n dX8_seen_1 rfl rfl ?_
  refine e_callV (As := [zI _]) (cb := 9) dX8_seen_2 moX8_clientAt mvX8_clientAt mlX8_139 (by decide) rfl (show zK _ 2 = 9 + 1 from p1) rfl (Nat.le_of_ble_eq_true rfl) ⟨by decide, by decide, by decide, by decide⟩ (c_X8_clientAt hl hR hN c hcz) (fun E h9 q => by (obtain ⟨e2, hz, e1⟩ := Qat_r q); subst e1; subst e2; exact AX_out rfl (by decide) (by decide) (QC_no (x := 1) (by first | (rw [if_pos (by omega)]; done) | (rw [if_neg (by omega), if_pos (by omega)]; done) | (rw [if_neg (by omega), if_neg (by omega), if_pos (by omega)]; done) | (rw [if_neg (by omega), if_neg (by omega), if_neg (by omega), if_pos (by omega)]; done)) (by decide) rfl (fun _ _ => eqAt_rf) hR)) (fun v h9 q => ?_)
  obtain ⟨e2, hc0, e1⟩ := Qat_l q; cases e1; rw [e2]; clear q e2 h9
  obtain ⟨hCl, hCh⟩ := hRc c hc0
  obtain ⟨r1, r2, r3, r4, r5, r6, r7, r8⟩ := id hCl
  have K3 : zK h (nC c) = 2 + 1 := r1
  have hcs := hIC c hc0.1 hc0.2
  obtain ⟨hV, ⟨ed, cp, kn, hK⟩, hC, hWn, hCp, hT, hRr, hRr0⟩ := hRs (S 35 c) ⟨hcs.1, hcs.2⟩
  obtain ⟨⟨s0, s4⟩, -, -, -, hSo, hP, hWs⟩ := id hV
  refine e_astore dX8_seen_5 (by decide) rfl rfl ?_
  refine e_iload_n dX8_seen_7 rfl rfl ?_
  refine e_iload_n dX8_seen_8 rfl rfl ?_
  refine e_callS (As := [zI _, zI _]) dX8_seen_9 moX8_screenCell msX8_screenCell mlX8_128 rfl (Nat.le_of_ble_eq_true rfl) ⟨by decide, by decide, by decide, by decide⟩ (show zC l MX8_screenCell [zI x, zI y] h (Qat (isXY x y) (zI (y * 12 + x)) exI h) from c_X8_screenCell hl x y hxz hyz) (fun E h9 q => by (obtain ⟨e2, hz, e1⟩ := Qat_r q); subst e1; subst e2; exact AX_out rfl (by decide) (by decide) (QC_no (x := 1) (by first | (rw [if_pos (by omega)]; done) | (rw [if_neg (by omega), if_pos (by omega)]; done) | (rw [if_neg (by omega), if_neg (by omega), if_pos (by omega)]; done) | (rw [if_neg (by omega), if_neg (by omega), if_neg (by omega), if_pos (by omega)]; done)) (by decide) rfl (fun _ _ => eqAt_rf) hR)) (fun v h9 q => ?_)
  obtain ⟨e2, hxy, e1⟩ := Qat_l q; cases e1; rw [e2]; clear q e2 h9
  refine e_istore dX8_seen_12 (by decide) rfl rfl ?_
  refine e_aload dX8_seen_14 rfl ?_
  refine e_getR dX8_seen_16 flX8_150 rfl K3 r2 ?_
  refine e_aload dX8_seen_19 rfl ?_
  refine e_iload dX8_seen_21 rfl ?_
  refine e_callV (As := [zR _, zI _]) (cb := 6) dX8_seen_23 moX5_lastGuessAt mvX5_lastGuessAt mlX8_154 (by decide) rfl (show zK h (nS (S 35 c)) = 6 + 1 from hSo.1) rfl (Nat.le_of_ble_eq_true rfl) ⟨by decide, by decide, by decide, by decide⟩ (c_X5_lastGuessAt hl hSo hK s0 s4 hN hIK hIW hWs c (y * 12 + x) hc0.1 (by omega)) (fun E h1 q => by cases q.1) (fun v h9 q => ?_)
  obtain ⟨e1, e2⟩ := q; cases e1; rw [e2]; clear e2 h9
  have hsk := seen_lastK S c (S 35 c) (y * 12 + x) (S 40 (96 * c + (y * 12 + x))) (S 17 (S 35 c)).toNat
  have hli := lastK_in S c (S 35 c) (y * 12 + x) (S 17 (S 35 c)).toNat
  have hb4 := n5 (S 35 c) s0 s4
  refine e_astore dX8_seen_26 (by decide) rfl rfl ?_
  refine e_aload dX8_seen_28 rfl ?_
  refine e_ifnonnull (tgt := 44) dX8_seen_30 (by decide) (fun r30 c30 => ?_) (fun c30 => ?_)
  · skip
    rw [c30]
    obtain ⟨z9, z8⟩ := kRef_some c30
    subst z8
    have hkk := (hK.2.2 _ z9 (by omega)).2
    refine e_aload dX8_seen_44 rfl ?_
    refine e_getI dX8_seen_46 flX8_158 rfl (show zK h (kn (lastK S c (S 35 c) (y * 12 + x) (S 17 (S 35 c)).toNat)) = 4 + 1 from hkk.1) hkk.2.2.2.2 (fun r46 => ?_)
    refine e_iret dX8_seen_49 rfl trivial (by decide) (by decide) ?_
    first
      | exact QC_ok (by first | (rw [if_neg (by omega)]; done) | (rw [if_neg (by omega), if_neg (by omega)]; done) | (rw [if_neg (by omega), if_neg (by omega), if_neg (by omega)]; done) | (rw [if_neg (by omega), if_neg (by omega), if_neg (by omega), if_neg (by omega)]; done)) (by unfold seen; rw [hsk, if_pos z9]) (fun _ _ => eqAt_rf) hR
      | exact QC_ok (by first | (rw [if_neg (by omega)]; done) | (rw [if_neg (by omega), if_neg (by omega)]; done) | (rw [if_neg (by omega), if_neg (by omega), if_neg (by omega)]; done) | (rw [if_neg (by omega), if_neg (by omega), if_neg (by omega), if_neg (by omega)]; done)) (by unfold seen; rw [hsk, if_neg (by omega)]) (fun _ _ => eqAt_rf) hR
  · skip
    have z9 : lastK S c (S 35 c) (y * 12 + x) (S 17 (S 35 c)).toNat < 0 := kRef_none c30
    refine e_aload dX8_seen_33 rfl ?_
    refine e_getR dX8_seen_35 flX8_149 rfl K3 r3 ?_
    refine e_iload dX8_seen_38 rfl ?_
    refine e_iald dX8_seen_40 hCh.1.2.1 (by omega) (by rw [hCh.1.2.2.1]; omega) (hCh.1.2.2.2 _ (by omega) (by omega)) (fun r40 => ?_)
    refine e_goto (tgt := 49) dX8_seen_41 (by decide) ?_
    refine e_iret dX8_seen_49 rfl trivial (by decide) (by decide) ?_
    first
      | exact QC_ok (by first | (rw [if_neg (by omega)]; done) | (rw [if_neg (by omega), if_neg (by omega)]; done) | (rw [if_neg (by omega), if_neg (by omega), if_neg (by omega)]; done) | (rw [if_neg (by omega), if_neg (by omega), if_neg (by omega), if_neg (by omega)]; done)) (by unfold seen; rw [hsk, if_pos z9]) (fun _ _ => eqAt_rf) hR
      | exact QC_ok (by first | (rw [if_neg (by omega)]; done) | (rw [if_neg (by omega), if_neg (by omega)]; done) | (rw [if_neg (by omega), if_neg (by omega), if_neg (by omega)]; done) | (rw [if_neg (by omega), if_neg (by omega), if_neg (by omega), if_neg (by omega)]; done)) (by unfold seen; rw [hsk, if_neg (by omega)]) (fun _ _ => eqAt_rf) hR
