set_option maxHeartbeats 4000000 in
set_option maxRecDepth 100000 in
theorem c_X8_closeWindow {l : Launch} (hl : l.stackTraces = false) {S : S9} {h : zH} {B : Int} (hR : RC S h) (hI : II S B) (s : Int) (hsz : zin s) (w : Int) (hwz : zin w) (p : Int) (hpp : isWn S s w → posO S s (6 * s + w) p)  : zC l MX8_closeWindow [zR (some 2), zI s, zI w] h (QC S h (if ¬ isWn S s w then 1 else 0) [exI] (zI (S 11 (6 * s + w))) (cloS S s (6 * s + w) p)) := by
  refine zC_of hl rfl rfl (by decide) rfl rfl (Nat.le_of_ble_eq_true rfl) ?_
  have hN : IN S := hI.1.1
  have hIW : IW S := hI.1.2.1
  have hIO : IO S := hI.1.2.2.1
  have hIC : IC S := hI.1.2.2.2.1
  have hIK : IK S := hI.1.2.2.2.2
  have hB3 := hI.2.2.1
  have hbt := hI.2.2.2.2
  obtain ⟨⟨⟨p1, p2, p3, p4, p5⟩, ⟨y1, y2, y3⟩, ⟨x1, x2, x3⟩, v1, v2, v3⟩, hRs, hRc, hRf⟩ := id hR
  obtain ⟨n1, n2, n3, n4, n5⟩ := id hN
  refine e_aload_n dX8_closeWindow_0 rfl rfl ?_
  refine e_iload_n dX8_closeWindow_1 rfl rfl ?_
  refine e_callV (As := [zI _]) (cb := 9) dX8_closeWindow_2 moX8_sessionAt mvX8_sessionAt mlX8_37 (by decide) rfl (show zK _ 2 = 9 + 1 from p1) rfl (Nat.le_of_ble_eq_true rfl) ⟨by decide, by decide, by decide, by decide⟩ (c_X8_sessionAt hl hR hN s hsz) (fun E h9 q => by (obtain ⟨e2, hz, e1⟩ := Qat_r q); subst e1; subst e2; exact AX_out rfl (by decide) (by decide) (QC_no (x := 1) (by first | (rw [if_pos (by omega)]; done) | (rw [if_neg (by omega), if_pos (by omega)]; done) | (rw [if_neg (by omega), if_neg (by omega), if_pos (by omega)]; done) | (rw [if_neg (by omega), if_neg (by omega), if_neg (by omega), if_pos (by omega)]; done)) (by decide) rfl (fun _ _ => eqAt_rf) hR)) (fun v h9 q => ?_)
  obtain ⟨e2, hs0, e1⟩ := Qat_l q; cases e1; rw [e2]; clear q e2 h9
  obtain ⟨hV, ⟨ed, cp, kn, hK⟩, hC, hWn, hCp, hT, hRr, hRr0⟩ := hRs s hs0
  obtain ⟨⟨s0, s4⟩, -, -, -, hSo, hP, hWs⟩ := id hV
  obtain ⟨o1, o2, o3, o4, o5, o6, o7, o8, o9⟩ := id hSo
  have hb4 := n5 s s0 s4
  have K6 : zK h (nS s) = 6 + 1 := o1
  refine e_astore_n dX8_closeWindow_5 rfl (by decide) rfl rfl ?_
  refine e_aload_n dX8_closeWindow_6 rfl rfl ?_
  refine e_iload_n dX8_closeWindow_7 rfl rfl ?_
  refine e_callS (As := [zR _, zI _]) dX8_closeWindow_8 moX8_windowAt msX8_windowAt mlX8_68 rfl (Nat.le_of_ble_eq_true rfl) ⟨by decide, by decide, by decide, by decide⟩ (c_X8_windowAt hl hV hWn (hbt 10 (by decide) _) hwz) (fun E h9 q => by (obtain ⟨e2, hz9, e1⟩ := Qat_r q); subst e1; subst e2; exact AX_out rfl (by decide) (by decide) (QC_no (x := 1) (by first | (rw [if_pos (by omega)]; done) | (rw [if_neg (by omega), if_pos (by omega)]; done) | (rw [if_neg (by omega), if_neg (by omega), if_pos (by omega)]; done) | (rw [if_neg (by omega), if_neg (by omega), if_neg (by omega), if_pos (by omega)]; done)) (by decide) rfl (fun _ _ => eqAt_rf) hR)) (fun v h9 q => ?_)
  obtain ⟨e2, hw9, e1⟩ := Qat_l q; cases e1; rw [e2]; clear q e2 h9
  have hwW : hasW S s (6 * s + w) := ⟨s0, s4, by omega, by omega⟩
  have hRw := hWs _ hwW
  have hIw := hIW _ _ hwW
  obtain ⟨i1, i2, i3, i4, i5, i6, i7, i8, i9, i10⟩ := id hIw
  have iA := area_le i5 i6 i7 i8
  obtain ⟨k1, f0, f1, rr2, f3, f4, f5, f6, f7, f8, f9, k2, kn2, cs⟩ := id hRw
  have K9 : zK h (nW (6 * s + w)) = 8 + 1 := k1
  have hhs : isWn S s w := by omega
  have hfreeW := RC_freeW hR s0 s4
  have nsw : ∀ j, j ≤ 18 → nS s + j ≠ nW (6 * s + w) ∧ nS s + j ≠ nW (6 * s + w) + 1 := fun j hj => by unfold nS nW; omega
  have nlw : nW (6 * s + w) > 999 ∧ nS s > 999 := by unfold nS nW; omega
  refine e_astore dX8_closeWindow_11 (by decide) rfl rfl ?_
  refine e_aload dX8_closeWindow_13 rfl ?_
  refine e_iconst dX8_closeWindow_15 ?_
  refine e_putI dX8_closeWindow_16 flX8_72 (Or.inl rfl) (Or.inl rfl) K9 (by omega) ?_
  have hp := hpp hhs
  have hI4 := I4_close (II_4 hI) s0 s4 hwW hp
  obtain ⟨pp0, pp1, pp2, pp3⟩ := id hp
  have fr1 : ∀ m, m ≠ nW (6 * s + w) → eqAt m h (sf h 805 (nW (6 * s + w)) 0) := fun m m1 => eqAt_sf m1
  have hSo1 : RSo S (sf h 805 (nW (6 * s + w)) 0) s := RSo_at (fr1 _ (nsw 0 (by decide)).1) hSo
  have hP1 : RP S (sf h 805 (nW (6 * s + w)) 0) s := RP_at (fr1 _ (nsw 2 (by decide)).1) (fr1 _ (nsw 15 (by decide)).1) hP
  refine e_aload_n dX8_closeWindow_19 rfl rfl ?_
  refine e_aload dX8_closeWindow_20 rfl ?_
  refine e_callV (As := [zR _]) (cb := 6) dX8_closeWindow_22 moX5_takeFromPile mvX5_takeFromPile mlX8_76 (by decide) rfl (show zK (sf h 805 (nW (6 * s + w)) 0) (nS s) = 6 + 1 from o1) rfl (Nat.le_of_ble_eq_true rfl) ⟨by decide, by decide, by decide, by decide⟩ (c_X5_takeFromPileW hl s0 s4 hN hIO hSo1 hP1 (fun v hv => (hWs v hv).1) (6 * s + w) p (by omega) hp) (fun E h1 q => by cases q.1) (fun v h1 q => ?_)
  obtain ⟨e1, hP2, hf8⟩ := q; cases e1
  rename zH => h8
  have fr : ∀ m, m ≠ nW (6 * s + w) → m ≠ nS s + 2 → m ≠ nS s + 15 → eqAt m h h8 := fun m m1 m2 m3 => eqAt_tr (fr1 m m1) (hf8 m m2 m3)
  have e16b := cloS_tk (S := S) (s := s) (w := 6 * s + w) (p := p)
  have ef : ∀ f, (f ≠ 10 ∧ f ≠ 15 ∧ f ≠ 16) → ∀ j, cloS S s (6 * s + w) p f j = S f j := fun f hf j => cloS_f hf
  have hWs2 : RWs (cloS S s (6 * s + w) p) h8 s := fun v hv => by
    rw [hasW, ef 4 (by decide)] at hv
    have hiv := hIW s v hv
    obtain ⟨g1, g2, g3, g4, g5, g6, g7, g8, g9, g10⟩ := hiv
    have hvA := area_le g5 g6 g7 g8
    have q0 := hf8 (nW v) (by unfold nW nS; omega) (by unfold nW nS; omega)
    have q1 := hf8 (nW v + 1) (by unfold nW nS; omega) (by unfold nW nS; omega)
    by_cases z : v = 6 * s + w
    · rw [z] at q0 q1 ⊢
      refine RW_at q0 q1 ⟨k1, ?_, ?_, rr2, ?_, ?_, ?_, ?_, ?_, ?_, ?_, k2, ?_, fun k u0 u1 => ?_⟩
      · exact f0.trans (ef 7 (by decide) _).symm
      · exact f1.trans (ef 8 (by decide) _).symm
      · exact f3.trans (ef 5 (by decide) _).symm
      · exact f4.trans (ef 6 (by decide) _).symm
      · rw [cloS_10, if_pos rfl]; exact z2_eq
      · exact f6.trans (ef 11 (by decide) _).symm
      · exact f7.trans (ef 12 (by decide) _).symm
      · exact f8.trans (ef 13 (by decide) _).symm
      · exact f9.trans (ef 9 (by decide) _).symm
      · rw [ef 7 (by decide), ef 8 (by decide)]; exact kn2
      · rw [ef 7 (by decide), ef 8 (by decide)] at u1
        rw [ef 14 (by decide)]
        exact cs k u0 u1
    · refine RW_ag (fun f f5 f13 => ?_) (fun k _ _ => ef 14 (by decide) _) hvA.2 (RW_at q0 q1 (RW_at (fr1 _ (by unfold nW; omega)) (fr1 _ (by unfold nW; omega)) (hWs v hv)))
      by_cases y : f = 10
      · rw [y, cloS_10, if_neg z]
      · exact ef f (by omega) v
  have hV1 : RV (cloS S s (6 * s + w) p) h8 s := RV_build hI4.1 s0 s4 (RSo_ag (ef 4 (by decide) s) (ef 31 (by decide) s) (RSo_at (hf8 _ (by omega) (by omega)) hSo1)) (RP_ag e16b.1 (fun i _ _ => e16b.2 _) hP2) hWs2
  have hb1 : ∀ u, cloS S s (6 * s + w) p 11 u = 0 ∨ cloS S s (6 * s + w) p 11 u = 1 := fun u => by rw [ef 11 (by decide) u]; exact hbt 11 (by decide) u
  have hC1 : RCo h8 s (screenAt S s) := RCo_at (fr _ (nsw 4 (by decide)).1 (by omega) (by omega)) hC
  refine e_aload_n dX8_closeWindow_25 rfl rfl ?_
  refine e_callV (As := []) (cb := 6) dX8_closeWindow_26 moX5_repaint mvX5_repaint mlX8_80 (by decide) rfl (show zK h8 (nS s) = 6 + 1 from (fr _ (nsw 0 (by decide)).1 (by omega) (by omega)).1.trans o1) rfl (Nat.le_of_ble_eq_true rfl) ⟨by decide, by decide, by decide, by decide⟩ (c_X5_repaint hl hV1 hb1 hC1) (fun E h1 q => by cases q.1) (fun v h1 q => ?_)
  obtain ⟨e1, hC9, hf9⟩ := q; cases e1
  refine e_pop dX8_closeWindow_29 rfl ?_
  refine e_aload dX8_closeWindow_30 rfl ?_
  refine e_getI dX8_closeWindow_32 flX8_84 rfl (show zK _ (nW (6 * s + w)) = 8 + 1 from (hf9 _ (by unfold nW nS; omega)).1.trans ((hf8 _ (by unfold nW nS; omega) (by unfold nW nS; omega)).1.trans k1)) (((hf9 (nW (6 * s + w)) (by unfold nW nS; omega)).2.2.1 806).trans (((hf8 (nW (6 * s + w)) (by unfold nW nS; omega) (by unfold nW nS; omega)).2.2.1 806).trans f6)) (fun r32 => ?_)
  refine e_iret dX8_closeWindow_35 rfl (hbt 11 (by decide) _) (by decide) (by decide) ?_
  have hfin := RC_win hI hI4.1 hs0 (cloS_e pp0 (by omega) (by omega)) (fun f hf j => ef f (by omega) j) hV1 (RWn_agf (ef 4 (by decide) s) (RWn_at (fr _ (nsw 1 (by decide)).1 (by omega) (by omega)) hWn)) (fun m m1 m2 m3 => fr m (m2 (6 * s + w) (by omega) (by omega)).1 (m1 2 (by decide)) (m1 15 (by decide))) hC9 hf9 (fun x x0 x1 => by
    rw [ef 4 (by decide)] at x0
    have z := hfreeW x x0 x1
    exact ⟨(fr _ (by unfold nW; omega) (by unfold nW nS; omega) (by unfold nW nS; omega)).1.trans z.1, (fr _ (by unfold nW; omega) (by unfold nW nS; omega) (by unfold nW nS; omega)).1.trans z.2⟩) hR
  exact QC_ok (by first | (rw [if_neg (by omega)]; done) | (rw [if_neg (by omega), if_neg (by omega)]; done) | (rw [if_neg (by omega), if_neg (by omega), if_neg (by omega)]; done) | (rw [if_neg (by omega), if_neg (by omega), if_neg (by omega), if_neg (by omega)]; done)) rfl (fun m hm => eqAt_tr (fr m (by omega) (by omega) (by omega)) (hf9 m (by omega))) hfin
set_option maxHeartbeats 4000000 in
set_option maxRecDepth 100000 in
theorem c_X8_raise {l : Launch} (hl : l.stackTraces = false) {S : S9} {h : zH} {B : Int} (hR : RC S h) (hI : II S B) (s : Int) (hsz : zin s) (w : Int) (hwz : zin w) (p : Int) (hpp : isWn S s w → posO S s (6 * s + w) p)  : zC l MX8_raise [zR (some 2), zI s, zI w] h (QC S h (if ¬ isWn S s w then 1 else 0) [exI] (zI (b2 (S 15 (6 * s + S 16 s - 1) ≠ 6 * s + w))) (raiS S s (6 * s + w) p)) := by
  refine zC_of hl rfl rfl (by decide) rfl rfl (Nat.le_of_ble_eq_true rfl) ?_
  have hN : IN S := hI.1.1
  have hIW : IW S := hI.1.2.1
  have hIO : IO S := hI.1.2.2.1
  have hIC : IC S := hI.1.2.2.2.1
  have hIK : IK S := hI.1.2.2.2.2
  have hB3 := hI.2.2.1
  have hbt := hI.2.2.2.2
  obtain ⟨⟨⟨p1, p2, p3, p4, p5⟩, ⟨y1, y2, y3⟩, ⟨x1, x2, x3⟩, v1, v2, v3⟩, hRs, hRc, hRf⟩ := id hR
  obtain ⟨n1, n2, n3, n4, n5⟩ := id hN
  refine e_aload_n dX8_raise_0 rfl rfl ?_
  refine e_iload_n dX8_raise_1 rfl rfl ?_
  refine e_callV (As := [zI _]) (cb := 9) dX8_raise_2 moX8_sessionAt mvX8_sessionAt mlX8_37 (by decide) rfl (show zK _ 2 = 9 + 1 from p1) rfl (Nat.le_of_ble_eq_true rfl) ⟨by decide, by decide, by decide, by decide⟩ (c_X8_sessionAt hl hR hN s hsz) (fun E h9 q => by (obtain ⟨e2, hz, e1⟩ := Qat_r q); subst e1; subst e2; exact AX_out rfl (by decide) (by decide) (QC_no (x := 1) (by first | (rw [if_pos (by omega)]; done) | (rw [if_neg (by omega), if_pos (by omega)]; done) | (rw [if_neg (by omega), if_neg (by omega), if_pos (by omega)]; done) | (rw [if_neg (by omega), if_neg (by omega), if_neg (by omega), if_pos (by omega)]; done)) (by decide) rfl (fun _ _ => eqAt_rf) hR)) (fun v h9 q => ?_)
  obtain ⟨e2, hs0, e1⟩ := Qat_l q; cases e1; rw [e2]; clear q e2 h9
  obtain ⟨hV, ⟨ed, cp, kn, hK⟩, hC, hWn, hCp, hT, hRr, hRr0⟩ := hRs s hs0
  obtain ⟨⟨s0, s4⟩, -, -, -, hSo, hP, hWs⟩ := id hV
  obtain ⟨o1, o2, o3, o4, o5, o6, o7, o8, o9⟩ := id hSo
  have hb4 := n5 s s0 s4
  have K6 : zK h (nS s) = 6 + 1 := o1
  refine e_astore_n dX8_raise_5 rfl (by decide) rfl rfl ?_
  refine e_aload_n dX8_raise_6 rfl rfl ?_
  refine e_iload_n dX8_raise_7 rfl rfl ?_
  refine e_callS (As := [zR _, zI _]) dX8_raise_8 moX8_windowAt msX8_windowAt mlX8_68 rfl (Nat.le_of_ble_eq_true rfl) ⟨by decide, by decide, by decide, by decide⟩ (c_X8_windowAt hl hV hWn (hbt 10 (by decide) _) hwz) (fun E h9 q => by (obtain ⟨e2, hz9, e1⟩ := Qat_r q); subst e1; subst e2; exact AX_out rfl (by decide) (by decide) (QC_no (x := 1) (by first | (rw [if_pos (by omega)]; done) | (rw [if_neg (by omega), if_pos (by omega)]; done) | (rw [if_neg (by omega), if_neg (by omega), if_pos (by omega)]; done) | (rw [if_neg (by omega), if_neg (by omega), if_neg (by omega), if_pos (by omega)]; done)) (by decide) rfl (fun _ _ => eqAt_rf) hR)) (fun v h9 q => ?_)
  obtain ⟨e2, hw9, e1⟩ := Qat_l q; cases e1; rw [e2]; clear q e2 h9
  have hwW : hasW S s (6 * s + w) := ⟨s0, s4, by omega, by omega⟩
  have hRw := hWs _ hwW
  have hIw := hIW _ _ hwW
  obtain ⟨i1, i2, i3, i4, i5, i6, i7, i8, i9, i10⟩ := id hIw
  have iA := area_le i5 i6 i7 i8
  obtain ⟨k1, f0, f1, rr2, f3, f4, f5, f6, f7, f8, f9, k2, kn2, cs⟩ := id hRw
  have K9 : zK h (nW (6 * s + w)) = 8 + 1 := k1
  have hhs : isWn S s w := by omega
  have hfreeW := RC_freeW hR s0 s4
  have nsw : ∀ j, j ≤ 18 → nS s + j ≠ nW (6 * s + w) ∧ nS s + j ≠ nW (6 * s + w) + 1 := fun j hj => by unfold nS nW; omega
  have nlw : nW (6 * s + w) > 999 ∧ nS s > 999 := by unfold nS nW; omega
  refine e_astore dX8_raise_11 (by decide) rfl rfl ?_
  refine e_aload_n dX8_raise_13 rfl rfl ?_
  refine e_aload dX8_raise_14 rfl ?_
  refine e_callV (As := [zR _]) (cb := 6) dX8_raise_16 moX5_isOnTop mvX5_isOnTop mlX8_93 (by decide) rfl K6 rfl (Nat.le_of_ble_eq_true rfl) ⟨by decide, by decide, by decide, by decide⟩ (c_X5_isOnTop hl hV (6 * s + w) (by omega)) (fun E h1 q => by cases q.1) (fun v h9 q => ?_)
  obtain ⟨e1, e2⟩ := q; cases e1; rw [e2]; clear e2 h9
  refine e_if_ne (tgt := 26) dX8_raise_19 (by decide) b2_in (fun c19 => ?_) (fun c19 => ?_)
  · skip
    try simp only [b2_0, b2_n0] at c19
    refine e_iconst dX8_raise_26 ?_
    refine e_istore dX8_raise_27 (by decide) rfl rfl ?_
    refine e_aload_n dX8_raise_29 rfl rfl ?_
    refine e_aload dX8_raise_30 rfl ?_
    have hp := hpp hhs
    have hI4 := I4_raise (II_4 hI) s0 s4 hwW (by omega) hp
    obtain ⟨pp0, pp1, pp2, pp3⟩ := id hp
    have ef : ∀ f, (f ≠ 15 ∧ f ≠ 16) → ∀ j, raiS S s (6 * s + w) p f j = S f j := fun f hf j => raiS_f hf
    refine e_callV (As := [zR _]) (cb := 6) dX8_raise_32 moX5_takeFromPile mvX5_takeFromPile mlX8_76 (by decide) rfl K6 rfl (Nat.le_of_ble_eq_true rfl) ⟨by decide, by decide, by decide, by decide⟩ (c_X5_takeFromPileW hl s0 s4 hN hIO hSo hP (fun v hv => (hWs v hv).1) (6 * s + w) p (by omega) hp) (fun E h1 q => by cases q.1) (fun v h1 q => ?_)
    obtain ⟨e1, hP2, hf8⟩ := q; cases e1
    rename zH => h8
    obtain ⟨ed2, cp2, hL2, hG2, hcp2, hed2⟩ := RP_room hl s0 (by rw [tkO_16]; omega) hP2
    have kb : zK h8 (nW (6 * s + w)) = 8 + 1 := (hf8 _ (by unfold nW nS; omega) (by unfold nW nS; omega)).1.trans k1
    refine e_aload_n dX8_raise_35 rfl rfl ?_
    refine e_getR dX8_raise_36 flX8_97 rfl (show zK h8 (nS s) = 6 + 1 from (hf8 _ (by omega) (by omega)).1.trans o1) (((hf8 (nS s) (by omega) (by omega)).2.2.2.2.1 601).trans o3) ?_
    refine e_aload dX8_raise_39 rfl ?_
    refine e_callV (As := [zR _]) (cb := 0) dX8_raise_41 moJx4a65c_add_9ea2d mvJx4a65c_add_9ea2d mlX8_101 (by decide) rfl (show zK h8 (nS s + 2) = 0 + 1 from hL2.1) rfl (Nat.le_of_ble_eq_true rfl) ⟨by decide, by decide, by decide, by decide⟩ (c_Jx4a65c_add_9ea2d hl hL2 hG2 (by rw [tkO_16]; omega) (by decide) hcp2 (nW (6 * s + w)) 8 (by decide) (by decide) kb (by unfold nW nS; omega) (by unfold nW nS; omega)) (fun E h1 q => by cases q.1) (fun v h1 q => ?_)
    obtain ⟨e1, hL3, hf7⟩ := q; cases e1
    rename zH => h7
    have fr : ∀ m, m ≠ nS s + 2 → m ≠ nS s + 15 → eqAt m h h7 := fun m m2 m3 => eqAt_tr (hf8 m m2 m3) (hf7 m m2 m3)
    have hP3 : RP (raiS S s (6 * s + w) p) h7 s := by
      refine ⟨nS s + 15, 10, LA_eqq ?_ (fun j j0 j1 => ?_) hL3, Or.inr ⟨rfl, rfl⟩⟩
      · rw [raiS_16, tkO_16]
      · rw [tkO_16] at j1 ⊢
        unfold pileQ
        by_cases z : j = S 16 s - 1
        · rw [if_pos z, z, raiS_L]
        · rw [if_neg z, raiS_15 z]
    have hWs2 : RWs (raiS S s (6 * s + w) p) h7 s := fun v hv => by
      rw [hasW, ef 4 (by decide)] at hv
      have hiv := hIW s v hv
      obtain ⟨g1, g2, g3, g4, g5, g6, g7, g8, g9, g10⟩ := hiv
      exact RW_ag (fun f f5 f13 => ef f (by omega) v) (fun k _ _ => ef 14 (by decide) _) (area_le g5 g6 g7 g8).2 (RW_at (fr _ (by unfold nW nS; omega) (by unfold nW nS; omega)) (fr _ (by unfold nW nS; omega) (by unfold nW nS; omega)) (hWs v hv))
    have hV1 : RV (raiS S s (6 * s + w) p) h7 s := RV_build hI4.1 s0 s4 (RSo_ag (ef 4 (by decide) s) (ef 31 (by decide) s) (RSo_at (fr _ (by omega) (by omega)) hSo)) hP3 hWs2
    have hb1 : ∀ u, raiS S s (6 * s + w) p 11 u = 0 ∨ raiS S s (6 * s + w) p 11 u = 1 := fun u => by rw [ef 11 (by decide) u]; exact hbt 11 (by decide) u
    have hC1 : RCo h7 s (screenAt S s) := RCo_at (fr _ (by omega) (by omega)) hC
    refine e_pop dX8_raise_44 rfl ?_
    refine e_aload_n dX8_raise_45 rfl rfl ?_
    refine e_callV (As := []) (cb := 6) dX8_raise_46 moX5_repaint mvX5_repaint mlX8_80 (by decide) rfl (show zK h7 (nS s) = 6 + 1 from (fr _ (by omega) (by omega)).1.trans o1) rfl (Nat.le_of_ble_eq_true rfl) ⟨by decide, by decide, by decide, by decide⟩ (c_X5_repaint hl hV1 hb1 hC1) (fun E h1 q => by cases q.1) (fun v h1 q => ?_)
    obtain ⟨e1, hC9, hf9⟩ := q; cases e1
    refine e_pop dX8_raise_49 rfl ?_
    refine e_iload dX8_raise_50 rfl ?_
    refine e_iret dX8_raise_52 rfl (by first | exact Or.inl rfl | exact Or.inr rfl | assumption | exact b2_01) (by decide) (by decide) ?_
    have hfin := RC_win hI hI4.1 hs0 (raiS_e pp0 pp1 (by omega)) (fun f hf j => ef f (by omega) j) hV1 (RWn_agf (ef 4 (by decide) s) (RWn_at (fr _ (by omega) (by omega)) hWn)) (fun m m1 m2 m3 => fr m (m1 2 (by decide)) (m1 15 (by decide))) hC9 hf9 (fun x x0 x1 => by
      rw [ef 4 (by decide)] at x0
      have z := hfreeW x x0 x1
      exact ⟨(fr _ (by unfold nW nS; omega) (by unfold nW nS; omega)).1.trans z.1, (fr _ (by unfold nW nS; omega) (by unfold nW nS; omega)).1.trans z.2⟩) hR
    rw [show 6 * s + (S 16 s - 1) = 6 * s + S 16 s - 1 by omega] at c19
    first
      | exact QC_ok (by first | (rw [if_neg (by omega)]; done) | (rw [if_neg (by omega), if_neg (by omega)]; done) | (rw [if_neg (by omega), if_neg (by omega), if_neg (by omega)]; done) | (rw [if_neg (by omega), if_neg (by omega), if_neg (by omega), if_neg (by omega)]; done)) (by rw [b2_t (by omega)]) (fun m hm => eqAt_tr (fr m (by omega) (by omega)) (hf9 m (by omega))) hfin
      | exact QC_ok (by first | (rw [if_neg (by omega)]; done) | (rw [if_neg (by omega), if_neg (by omega)]; done) | (rw [if_neg (by omega), if_neg (by omega), if_neg (by omega)]; done) | (rw [if_neg (by omega), if_neg (by omega), if_neg (by omega), if_neg (by omega)]; done)) (by rw [b2_f (by omega)]) (fun m hm => eqAt_tr (fr m (by omega) (by omega)) (hf9 m (by omega))) hfin
  · skip
    try simp only [b2_0, b2_n0] at c19
    refine e_iconst dX8_raise_22 ?_
    refine e_goto (tgt := 27) dX8_raise_23 (by decide) ?_
    refine e_istore dX8_raise_27 (by decide) rfl rfl ?_
    refine e_aload_n dX8_raise_29 rfl rfl ?_
    refine e_aload dX8_raise_30 rfl ?_
    have hp := hpp hhs
    have hI4 := I4_raise (II_4 hI) s0 s4 hwW (by omega) hp
    obtain ⟨pp0, pp1, pp2, pp3⟩ := id hp
    have ef : ∀ f, (f ≠ 15 ∧ f ≠ 16) → ∀ j, raiS S s (6 * s + w) p f j = S f j := fun f hf j => raiS_f hf
    refine e_callV (As := [zR _]) (cb := 6) dX8_raise_32 moX5_takeFromPile mvX5_takeFromPile mlX8_76 (by decide) rfl K6 rfl (Nat.le_of_ble_eq_true rfl) ⟨by decide, by decide, by decide, by decide⟩ (c_X5_takeFromPileW hl s0 s4 hN hIO hSo hP (fun v hv => (hWs v hv).1) (6 * s + w) p (by omega) hp) (fun E h1 q => by cases q.1) (fun v h1 q => ?_)
    obtain ⟨e1, hP2, hf8⟩ := q; cases e1
    rename zH => h8
    obtain ⟨ed2, cp2, hL2, hG2, hcp2, hed2⟩ := RP_room hl s0 (by rw [tkO_16]; omega) hP2
    have kb : zK h8 (nW (6 * s + w)) = 8 + 1 := (hf8 _ (by unfold nW nS; omega) (by unfold nW nS; omega)).1.trans k1
    refine e_aload_n dX8_raise_35 rfl rfl ?_
    refine e_getR dX8_raise_36 flX8_97 rfl (show zK h8 (nS s) = 6 + 1 from (hf8 _ (by omega) (by omega)).1.trans o1) (((hf8 (nS s) (by omega) (by omega)).2.2.2.2.1 601).trans o3) ?_
    refine e_aload dX8_raise_39 rfl ?_
    refine e_callV (As := [zR _]) (cb := 0) dX8_raise_41 moJx4a65c_add_9ea2d mvJx4a65c_add_9ea2d mlX8_101 (by decide) rfl (show zK h8 (nS s + 2) = 0 + 1 from hL2.1) rfl (Nat.le_of_ble_eq_true rfl) ⟨by decide, by decide, by decide, by decide⟩ (c_Jx4a65c_add_9ea2d hl hL2 hG2 (by rw [tkO_16]; omega) (by decide) hcp2 (nW (6 * s + w)) 8 (by decide) (by decide) kb (by unfold nW nS; omega) (by unfold nW nS; omega)) (fun E h1 q => by cases q.1) (fun v h1 q => ?_)
    obtain ⟨e1, hL3, hf7⟩ := q; cases e1
    rename zH => h7
    have fr : ∀ m, m ≠ nS s + 2 → m ≠ nS s + 15 → eqAt m h h7 := fun m m2 m3 => eqAt_tr (hf8 m m2 m3) (hf7 m m2 m3)
    have hP3 : RP (raiS S s (6 * s + w) p) h7 s := by
      refine ⟨nS s + 15, 10, LA_eqq ?_ (fun j j0 j1 => ?_) hL3, Or.inr ⟨rfl, rfl⟩⟩
      · rw [raiS_16, tkO_16]
      · rw [tkO_16] at j1 ⊢
        unfold pileQ
        by_cases z : j = S 16 s - 1
        · rw [if_pos z, z, raiS_L]
        · rw [if_neg z, raiS_15 z]
    have hWs2 : RWs (raiS S s (6 * s + w) p) h7 s := fun v hv => by
      rw [hasW, ef 4 (by decide)] at hv
      have hiv := hIW s v hv
      obtain ⟨g1, g2, g3, g4, g5, g6, g7, g8, g9, g10⟩ := hiv
      exact RW_ag (fun f f5 f13 => ef f (by omega) v) (fun k _ _ => ef 14 (by decide) _) (area_le g5 g6 g7 g8).2 (RW_at (fr _ (by unfold nW nS; omega) (by unfold nW nS; omega)) (fr _ (by unfold nW nS; omega) (by unfold nW nS; omega)) (hWs v hv))
    have hV1 : RV (raiS S s (6 * s + w) p) h7 s := RV_build hI4.1 s0 s4 (RSo_ag (ef 4 (by decide) s) (ef 31 (by decide) s) (RSo_at (fr _ (by omega) (by omega)) hSo)) hP3 hWs2
    have hb1 : ∀ u, raiS S s (6 * s + w) p 11 u = 0 ∨ raiS S s (6 * s + w) p 11 u = 1 := fun u => by rw [ef 11 (by decide) u]; exact hbt 11 (by decide) u
    have hC1 : RCo h7 s (screenAt S s) := RCo_at (fr _ (by omega) (by omega)) hC
    refine e_pop dX8_raise_44 rfl ?_
    refine e_aload_n dX8_raise_45 rfl rfl ?_
    refine e_callV (As := []) (cb := 6) dX8_raise_46 moX5_repaint mvX5_repaint mlX8_80 (by decide) rfl (show zK h7 (nS s) = 6 + 1 from (fr _ (by omega) (by omega)).1.trans o1) rfl (Nat.le_of_ble_eq_true rfl) ⟨by decide, by decide, by decide, by decide⟩ (c_X5_repaint hl hV1 hb1 hC1) (fun E h1 q => by cases q.1) (fun v h1 q => ?_)
    obtain ⟨e1, hC9, hf9⟩ := q; cases e1
    refine e_pop dX8_raise_49 rfl ?_
    refine e_iload dX8_raise_50 rfl ?_
    refine e_iret dX8_raise_52 rfl (by first | exact Or.inl rfl | exact Or.inr rfl | assumption | exact b2_01) (by decide) (by decide) ?_
    have hfin := RC_win hI hI4.1 hs0 (raiS_e pp0 pp1 (by omega)) (fun f hf j => ef f (by omega) j) hV1 (RWn_agf (ef 4 (by decide) s) (RWn_at (fr _ (by omega) (by omega)) hWn)) (fun m m1 m2 m3 => fr m (m1 2 (by decide)) (m1 15 (by decide))) hC9 hf9 (fun x x0 x1 => by
      rw [ef 4 (by decide)] at x0
      have z := hfreeW x x0 x1
      exact ⟨(fr _ (by unfold nW nS; omega) (by unfold nW nS; omega)).1.trans z.1, (fr _ (by unfold nW nS; omega) (by unfold nW nS; omega)).1.trans z.2⟩) hR
    rw [show 6 * s + (S 16 s - 1) = 6 * s + S 16 s - 1 by omega] at c19
    first
      | exact QC_ok (by first | (rw [if_neg (by omega)]; done) | (rw [if_neg (by omega), if_neg (by omega)]; done) | (rw [if_neg (by omega), if_neg (by omega), if_neg (by omega)]; done) | (rw [if_neg (by omega), if_neg (by omega), if_neg (by omega), if_neg (by omega)]; done)) (by rw [b2_t (by omega)]) (fun m hm => eqAt_tr (fr m (by omega) (by omega)) (hf9 m (by omega))) hfin
      | exact QC_ok (by first | (rw [if_neg (by omega)]; done) | (rw [if_neg (by omega), if_neg (by omega)]; done) | (rw [if_neg (by omega), if_neg (by omega), if_neg (by omega)]; done) | (rw [if_neg (by omega), if_neg (by omega), if_neg (by omega), if_neg (by omega)]; done)) (by rw [b2_f (by omega)]) (fun m hm => eqAt_tr (fr m (by omega) (by omega)) (hf9 m (by omega))) hfin
