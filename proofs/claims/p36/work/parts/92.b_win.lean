set_option maxHeartbeats 4000000 in
set_option maxRecDepth 100000 in
theorem c_X8_mark {l : Launch} (hl : l.stackTraces = false) {S : S9} {h : zH} {B : Int} (hR : RC S h) (hI : II S B) (s : Int) (hsz : zin s) (w : Int) (hwz : zin w) (v u : Int) (hv : v = 0 ∨ v = 1) (hu : u = 0 ∨ u = 1)  : zC l MX8_mark [zR (some 2), zI s, zI w, zI v, zI u] h (QC S h (if ¬ isWn S s w then 1 else 0) [exI] (zI (b2 (S 12 (6 * s + w) ≠ v ∨ S 13 (6 * s + w) ≠ u))) (up (up S 12 (6 * s + w) v) 13 (6 * s + w) u)) := by
  refine zC_of hl rfl rfl (by decide) rfl rfl (Nat.le_of_ble_eq_true rfl) ?_
  have hN : IN S := hI.1.1
  have hIW : IW S := hI.1.2.1
  have hIO : IO S := hI.1.2.2.1
  have hIC : IC S := hI.1.2.2.2.1
  have hIK : IK S := hI.1.2.2.2.2
  have hB3 := hI.2.2.1
  have hbt := hI.2.2.2.2
  obtain ⟨⟨⟨p1, p2, p3, p4, p5⟩, ⟨y1, y2, y3⟩, ⟨x1, x2, x3⟩, v1, v2, v3⟩, hRs, hRc, hRf⟩ := id hR
  obtain ⟨n1, n2, n3, n4, n5⟩ := id hN
  refine e_aload_n dX8_mark_0 rfl rfl ?_
  refine e_iload_n dX8_mark_1 rfl rfl ?_
  refine e_callV (As := [zI _]) (cb := 9) dX8_mark_2 moX8_sessionAt mvX8_sessionAt mlX8_37 (by decide) rfl (show zK _ 2 = 9 + 1 from p1) rfl (Nat.le_of_ble_eq_true rfl) ⟨by decide, by decide, by decide, by decide⟩ (c_X8_sessionAt hl hR hN s hsz) (fun E h9 q => by (obtain ⟨e2, hz, e1⟩ := Qat_r q); subst e1; subst e2; exact AX_out rfl (by decide) (by decide) (QC_no (x := 1) (by first | (rw [if_pos (by omega)]; done) | (rw [if_neg (by omega), if_pos (by omega)]; done) | (rw [if_neg (by omega), if_neg (by omega), if_pos (by omega)]; done) | (rw [if_neg (by omega), if_neg (by omega), if_neg (by omega), if_pos (by omega)]; done)) (by decide) rfl (fun _ _ => eqAt_rf) hR)) (fun v h9 q => ?_)
  obtain ⟨e2, hs0, e1⟩ := Qat_l q; cases e1; rw [e2]; clear q e2 h9
  obtain ⟨hV, ⟨ed, cp, kn, hK⟩, hC, hWn, hCp, hT, hRr, hRr0⟩ := hRs s hs0
  obtain ⟨⟨s0, s4⟩, -, -, -, hSo, hP, hWs⟩ := id hV
  obtain ⟨o1, o2, o3, o4, o5, o6, o7, o8, o9⟩ := id hSo
  have hb4 := n5 s s0 s4
  have K6 : zK h (nS s) = 6 + 1 := o1
  refine e_iload_n dX8_mark_5 rfl rfl ?_
  refine e_callS (As := [zR _, zI _]) dX8_mark_6 moX8_windowAt msX8_windowAt mlX8_68 rfl (Nat.le_of_ble_eq_true rfl) ⟨by decide, by decide, by decide, by decide⟩ (c_X8_windowAt hl hV hWn (hbt 10 (by decide) _) hwz) (fun E h9 q => by (obtain ⟨e2, hz9, e1⟩ := Qat_r q); subst e1; subst e2; exact AX_out rfl (by decide) (by decide) (QC_no (x := 1) (by first | (rw [if_pos (by omega)]; done) | (rw [if_neg (by omega), if_pos (by omega)]; done) | (rw [if_neg (by omega), if_neg (by omega), if_pos (by omega)]; done) | (rw [if_neg (by omega), if_neg (by omega), if_neg (by omega), if_pos (by omega)]; done)) (by decide) rfl (fun _ _ => eqAt_rf) hR)) (fun v h9 q => ?_)
  obtain ⟨e2, hw9, e1⟩ := Qat_l q; cases e1; rw [e2]; clear q e2 h9
  have hwW : hasW S s (6 * s + w) := ⟨s0, s4, by omega, by omega⟩
  have hRw := hWs _ hwW
  have hIw := hIW _ _ hwW
  obtain ⟨i1, i2, i3, i4, i5, i6, i7, i8, i9, i10⟩ := id hIw
  have iA := area_le i5 i6 i7 i8
  obtain ⟨k1, f0, f1, rr2, f3, f4, f5, f6, f7, f8, f9, k2, kn2, cs⟩ := id hRw
  have K9 : zK h (nW (6 * s + w)) = 8 + 1 := k1
  have hhs : isWn S s w := by omega
  have hfreeW := RC_freeW hR s0 s4
  have nsw : ∀ j, j ≤ 18 → nS s + j ≠ nW (6 * s + w) ∧ nS s + j ≠ nW (6 * s + w) + 1 := fun j hj => by unfold nS nW; omega
  have nlw : nW (6 * s + w) > 999 ∧ nS s > 999 := by unfold nS nW; omega
  refine e_astore dX8_mark_9 (by decide) rfl rfl ?_
  refine e_aload dX8_mark_11 rfl ?_
  refine e_getI dX8_mark_13 flX8_107 rfl (by assumption) (by assumption) (fun r13 => ?_)
  refine e_iload_n dX8_mark_16 rfl rfl ?_
  refine e_icmp_ne (tgt := 30) dX8_mark_17 (by decide) (by omega) (by omega) (fun c17 => ?_) (fun c17 => ?_)
  · skip
    refine e_iconst dX8_mark_30 ?_
    refine e_goto (tgt := 35) dX8_mark_31 (by decide) ?_
    refine e_istore dX8_mark_35 (by decide) rfl rfl ?_
    refine e_aload dX8_mark_37 rfl ?_
    refine e_iload_n dX8_mark_39 rfl rfl ?_
    refine e_putI dX8_mark_40 flX8_107 (Or.inl rfl) hv K9 (by omega) ?_
    refine e_aload dX8_mark_43 rfl ?_
    refine e_iload dX8_mark_45 rfl ?_
    refine e_putI dX8_mark_47 flX8_110 (Or.inl rfl) hu K9 (by omega) ?_
    refine e_iload dX8_mark_50 rfl ?_
    refine e_iret dX8_mark_52 rfl (by first | exact Or.inl rfl | exact Or.inr rfl | assumption | exact b2_01) (by decide) (by decide) ?_
    have hI4 := I4_mark (II_4 hI) hhs s4 (v := v) (u := u)
    have fr : ∀ m, m ≠ nW (6 * s + w) → m ≠ nW (6 * s + w) + 1 → eqAt m h (sf (sf h 807 (nW (6 * s + w)) v) 808 (nW (6 * s + w)) u) := fun m m1 _ => eqAt_tr (eqAt_sf m1) (eqAt_sf m1)
    have ee : ∀ f j, ((f ≠ 12 ∧ f ≠ 13) ∨ j ≠ 6 * s + w) → (up (up S 12 (6 * s + w) v) 13 (6 * s + w) u) f j = S f j := fun f j h1 => by
      unfold up
      rw [if_neg (by omega), if_neg (by omega)]
    have hRw1 : RW (up (up S 12 (6 * s + w) v) 13 (6 * s + w) u) (sf (sf h 807 (nW (6 * s + w)) v) 808 (nW (6 * s + w)) u) (6 * s + w) := by
      refine ⟨k1, ?_, ?_, rr2, ?_, ?_, ?_, ?_, ?_, ?_, ?_, k2, ?_, fun k q0 q1 => ?_⟩
      all_goals first
        | (simp [s_ff, s_Nf, up, f0, f1, f3, f4, f5, f6, f7, f8, f9, kn2]; done)
        | (have z := cs k q0 (by simpa [up] using q1); simpa [up, s_af] using z)
    have hV1 := RV_win hI4.1 hwW (fun f j h1 h2 => ee f j (by omega)) hRw1 fr hV
    have hC1 : RCo (sf (sf h 807 (nW (6 * s + w)) v) 808 (nW (6 * s + w)) u) s (screenAt (up (up S 12 (6 * s + w) v) 13 (6 * s + w) u) s) := RCo_eq (fun p _ _ => screenAt_agX (fun f hf j => ee f j (by omega)) s p) (RCo_at (fr _ (nsw 4 (by decide)).1 (nsw 4 (by decide)).2) hC)
    have hfin := RC_win hI hI4.1 hs0 (fun f j hn => ee f j (by unfold inS at hn; omega)) (fun f hf j => ee f j (by omega)) hV1 (RWn_agf (ee 4 s (by omega)) (RWn_at (fr _ (nsw 1 (by decide)).1 (nsw 1 (by decide)).2) hWn)) (fun m m1 m2 m3 => fr m (m2 (6 * s + w) (by omega) (by omega)).1 (m2 (6 * s + w) (by omega) (by omega)).2) hC1 (fun _ _ => eqAt_rf) (fun x x0 x1 => by
      rw [ee 4 s (by omega)] at x0
      exact hfreeW x x0 x1) hR
    first
      | exact QC_ok (by first | (rw [if_neg (by omega)]; done) | (rw [if_neg (by omega), if_neg (by omega)]; done) | (rw [if_neg (by omega), if_neg (by omega), if_neg (by omega)]; done) | (rw [if_neg (by omega), if_neg (by omega), if_neg (by omega), if_neg (by omega)]; done)) (by rw [b2_t (by omega)]) (fun m hm => fr m (by omega) (by omega)) hfin
      | exact QC_ok (by first | (rw [if_neg (by omega)]; done) | (rw [if_neg (by omega), if_neg (by omega)]; done) | (rw [if_neg (by omega), if_neg (by omega), if_neg (by omega)]; done) | (rw [if_neg (by omega), if_neg (by omega), if_neg (by omega), if_neg (by omega)]; done)) (by rw [b2_f (by omega)]) (fun m hm => fr m (by omega) (by omega)) hfin
  · skip
    refine e_aload dX8_mark_20 rfl ?_
    refine e_getI dX8_mark_22 flX8_110 rfl K9 f8 (fun r22 => ?_)
    refine e_iload dX8_mark_25 rfl ?_
    refine e_icmp_eq (tgt := 34) dX8_mark_27 (by decide) (by omega) (by omega) (fun c27 => ?_) (fun c27 => ?_)
    · skip
      refine e_iconst dX8_mark_34 ?_
      refine e_istore dX8_mark_35 (by decide) rfl rfl ?_
      refine e_aload dX8_mark_37 rfl ?_
      refine e_iload_n dX8_mark_39 rfl rfl ?_
      refine e_putI dX8_mark_40 flX8_107 (Or.inl rfl) hv K9 (by omega) ?_
      refine e_aload dX8_mark_43 rfl ?_
      refine e_iload dX8_mark_45 rfl ?_
      refine e_putI dX8_mark_47 flX8_110 (Or.inl rfl) hu K9 (by omega) ?_
      refine e_iload dX8_mark_50 rfl ?_
      refine e_iret dX8_mark_52 rfl (by first | exact Or.inl rfl | exact Or.inr rfl | assumption | exact b2_01) (by decide) (by decide) ?_
      have hI4 := I4_mark (II_4 hI) hhs s4 (v := v) (u := u)
      have fr : ∀ m, m ≠ nW (6 * s + w) → m ≠ nW (6 * s + w) + 1 → eqAt m h (sf (sf h 807 (nW (6 * s + w)) v) 808 (nW (6 * s + w)) u) := fun m m1 _ => eqAt_tr (eqAt_sf m1) (eqAt_sf m1)
      have ee : ∀ f j, ((f ≠ 12 ∧ f ≠ 13) ∨ j ≠ 6 * s + w) → (up (up S 12 (6 * s + w) v) 13 (6 * s + w) u) f j = S f j := fun f j h1 => by
        unfold up
        rw [if_neg (by omega), if_neg (by omega)]
      have hRw1 : RW (up (up S 12 (6 * s + w) v) 13 (6 * s + w) u) (sf (sf h 807 (nW (6 * s + w)) v) 808 (nW (6 * s + w)) u) (6 * s + w) := by
        refine ⟨k1, ?_, ?_, rr2, ?_, ?_, ?_, ?_, ?_, ?_, ?_, k2, ?_, fun k q0 q1 => ?_⟩
        all_goals first
          | (simp [s_ff, s_Nf, up, f0, f1, f3, f4, f5, f6, f7, f8, f9, kn2]; done)
          | (have z := cs k q0 (by simpa [up] using q1); simpa [up, s_af] using z)
      have hV1 := RV_win hI4.1 hwW (fun f j h1 h2 => ee f j (by omega)) hRw1 fr hV
      have hC1 : RCo (sf (sf h 807 (nW (6 * s + w)) v) 808 (nW (6 * s + w)) u) s (screenAt (up (up S 12 (6 * s + w) v) 13 (6 * s + w) u) s) := RCo_eq (fun p _ _ => screenAt_agX (fun f hf j => ee f j (by omega)) s p) (RCo_at (fr _ (nsw 4 (by decide)).1 (nsw 4 (by decide)).2) hC)
      have hfin := RC_win hI hI4.1 hs0 (fun f j hn => ee f j (by unfold inS at hn; omega)) (fun f hf j => ee f j (by omega)) hV1 (RWn_agf (ee 4 s (by omega)) (RWn_at (fr _ (nsw 1 (by decide)).1 (nsw 1 (by decide)).2) hWn)) (fun m m1 m2 m3 => fr m (m2 (6 * s + w) (by omega) (by omega)).1 (m2 (6 * s + w) (by omega) (by omega)).2) hC1 (fun _ _ => eqAt_rf) (fun x x0 x1 => by
        rw [ee 4 s (by omega)] at x0
        exact hfreeW x x0 x1) hR
      first
        | exact QC_ok (by first | (rw [if_neg (by omega)]; done) | (rw [if_neg (by omega), if_neg (by omega)]; done) | (rw [if_neg (by omega), if_neg (by omega), if_neg (by omega)]; done) | (rw [if_neg (by omega), if_neg (by omega), if_neg (by omega), if_neg (by omega)]; done)) (by rw [b2_t (by omega)]) (fun m hm => fr m (by omega) (by omega)) hfin
        | exact QC_ok (by first | (rw [if_neg (by omega)]; done) | (rw [if_neg (by omega), if_neg (by omega)]; done) | (rw [if_neg (by omega), if_neg (by omega), if_neg (by omega)]; done) | (rw [if_neg (by omega), if_neg (by omega), if_neg (by omega), if_neg (by omega)]; done)) (by rw [b2_f (by omega)]) (fun m hm => fr m (by omega) (by omega)) hfin
    · skip
      refine e_iconst dX8_mark_30 ?_
      refine e_goto (tgt := 35) dX8_mark_31 (by decide) ?_
      refine e_istore dX8_mark_35 (by decide) rfl rfl ?_
      refine e_aload dX8_mark_37 rfl ?_
      refine e_iload_n dX8_mark_39 rfl rfl ?_
      refine e_putI dX8_mark_40 flX8_107 (Or.inl rfl) hv K9 (by omega) ?_
      refine e_aload dX8_mark_43 rfl ?_
      refine e_iload dX8_mark_45 rfl ?_
      refine e_putI dX8_mark_47 flX8_110 (Or.inl rfl) hu K9 (by omega) ?_
      refine e_iload dX8_mark_50 rfl ?_
      refine e_iret dX8_mark_52 rfl (by first | exact Or.inl rfl | exact Or.inr rfl | assumption | exact b2_01) (by decide) (by decide) ?_
      have hI4 := I4_mark (II_4 hI) hhs s4 (v := v) (u := u)
      have fr : ∀ m, m ≠ nW (6 * s + w) → m ≠ nW (6 * s + w) + 1 → eqAt m h (sf (sf h 807 (nW (6 * s + w)) v) 808 (nW (6 * s + w)) u) := fun m m1 _ => eqAt_tr (eqAt_sf m1) (eqAt_sf m1)
      have ee : ∀ f j, ((f ≠ 12 ∧ f ≠ 13) ∨ j ≠ 6 * s + w) → (up (up S 12 (6 * s + w) v) 13 (6 * s + w) u) f j = S f j := fun f j h1 => by
        unfold up
        rw [if_neg (by omega), if_neg (by omega)]
      have hRw1 : RW (up (up S 12 (6 * s + w) v) 13 (6 * s + w) u) (sf (sf h 807 (nW (6 * s + w)) v) 808 (nW (6 * s + w)) u) (6 * s + w) := by
        refine ⟨k1, ?_, ?_, rr2, ?_, ?_, ?_, ?_, ?_, ?_, ?_, k2, ?_, fun k q0 q1 => ?_⟩
        all_goals first
          | (simp [s_ff, s_Nf, up, f0, f1, f3, f4, f5, f6, f7, f8, f9, kn2]; done)
          | (have z := cs k q0 (by simpa [up] using q1); simpa [up, s_af] using z)
      have hV1 := RV_win hI4.1 hwW (fun f j h1 h2 => ee f j (by omega)) hRw1 fr hV
      have hC1 : RCo (sf (sf h 807 (nW (6 * s + w)) v) 808 (nW (6 * s + w)) u) s (screenAt (up (up S 12 (6 * s + w) v) 13 (6 * s + w) u) s) := RCo_eq (fun p _ _ => screenAt_agX (fun f hf j => ee f j (by omega)) s p) (RCo_at (fr _ (nsw 4 (by decide)).1 (nsw 4 (by decide)).2) hC)
      have hfin := RC_win hI hI4.1 hs0 (fun f j hn => ee f j (by unfold inS at hn; omega)) (fun f hf j => ee f j (by omega)) hV1 (RWn_agf (ee 4 s (by omega)) (RWn_at (fr _ (nsw 1 (by decide)).1 (nsw 1 (by decide)).2) hWn)) (fun m m1 m2 m3 => fr m (m2 (6 * s + w) (by omega) (by omega)).1 (m2 (6 * s + w) (by omega) (by omega)).2) hC1 (fun _ _ => eqAt_rf) (fun x x0 x1 => by
        rw [ee 4 s (by omega)] at x0
        exact hfreeW x x0 x1) hR
      first
        | exact QC_ok (by first | (rw [if_neg (by omega)]; done) | (rw [if_neg (by omega), if_neg (by omega)]; done) | (rw [if_neg (by omega), if_neg (by omega), if_neg (by omega)]; done) | (rw [if_neg (by omega), if_neg (by omega), if_neg (by omega), if_neg (by omega)]; done)) (by rw [b2_t (by omega)]) (fun m hm => fr m (by omega) (by omega)) hfin
        | exact QC_ok (by first | (rw [if_neg (by omega)]; done) | (rw [if_neg (by omega), if_neg (by omega)]; done) | (rw [if_neg (by omega), if_neg (by omega), if_neg (by omega)]; done) | (rw [if_neg (by omega), if_neg (by omega), if_neg (by omega), if_neg (by omega)]; done)) (by rw [b2_f (by omega)]) (fun m hm => fr m (by omega) (by omega)) hfin
set_option maxHeartbeats 4000000 in
set_option maxRecDepth 100000 in
theorem c_X8_moveWindow {l : Launch} (hl : l.stackTraces = false) {S : S9} {h : zH} {B : Int} (hR : RC S h) (hI : II S B) (s : Int) (hsz : zin s) (w : Int) (hwz : zin w) (x : Int) (hxz : zin x) (y : Int) (hyz : zin y)  : zC l MX8_moveWindow [zR (some 2), zI s, zI w, zI x, zI y] h (QC S h (if ¬ isWn S s w then 1 else if ¬ ((-5 ≤ x ∧ x ≤ 11) ∧ (-5 ≤ y ∧ y ≤ 7)) then 2 else 0) [exI, exA] (zI (movN S (movS S (6 * s + w) x y) s)) (movS S (6 * s + w) x y)) := by
  refine zC_of hl rfl rfl (by decide) rfl rfl (Nat.le_of_ble_eq_true rfl) ?_
  have hN : IN S := hI.1.1
  have hIW : IW S := hI.1.2.1
  have hIO : IO S := hI.1.2.2.1
  have hIC : IC S := hI.1.2.2.2.1
  have hIK : IK S := hI.1.2.2.2.2
  have hB3 := hI.2.2.1
  have hbt := hI.2.2.2.2
  obtain ⟨⟨⟨p1, p2, p3, p4, p5⟩, ⟨y1, y2, y3⟩, ⟨x1, x2, x3⟩, v1, v2, v3⟩, hRs, hRc, hRf⟩ := id hR
  obtain ⟨n1, n2, n3, n4, n5⟩ := id hN
  refine e_aload_n dX8_moveWindow_0 rfl rfl ?_
  refine e_iload_n dX8_moveWindow_1 rfl rfl ?_
  refine e_callV (As := [zI _]) (cb := 9) dX8_moveWindow_2 moX8_sessionAt mvX8_sessionAt mlX8_37 (by decide) rfl (show zK _ 2 = 9 + 1 from p1) rfl (Nat.le_of_ble_eq_true rfl) ⟨by decide, by decide, by decide, by decide⟩ (c_X8_sessionAt hl hR hN s hsz) (fun E h9 q => by (obtain ⟨e2, hz, e1⟩ := Qat_r q); subst e1; subst e2; exact AX_out rfl (by decide) (by decide) (QC_no (x := 1) (by first | (rw [if_pos (by omega)]; done) | (rw [if_neg (by omega), if_pos (by omega)]; done) | (rw [if_neg (by omega), if_neg (by omega), if_pos (by omega)]; done) | (rw [if_neg (by omega), if_neg (by omega), if_neg (by omega), if_pos (by omega)]; done)) (by decide) rfl (fun _ _ => eqAt_rf) hR)) (fun v h9 q => ?_)
  obtain ⟨e2, hs0, e1⟩ := Qat_l q; cases e1; rw [e2]; clear q e2 h9
  obtain ⟨hV, ⟨ed, cp, kn, hK⟩, hC, hWn, hCp, hT, hRr, hRr0⟩ := hRs s hs0
  obtain ⟨⟨s0, s4⟩, -, -, -, hSo, hP, hWs⟩ := id hV
  obtain ⟨o1, o2, o3, o4, o5, o6, o7, o8, o9⟩ := id hSo
  have hb4 := n5 s s0 s4
  have K6 : zK h (nS s) = 6 + 1 := o1
  refine e_astore dX8_moveWindow_5 (by decide) rfl rfl ?_
  refine e_aload dX8_moveWindow_7 rfl ?_
  refine e_iload_n dX8_moveWindow_9 rfl rfl ?_
  refine e_callS (As := [zR _, zI _]) dX8_moveWindow_10 moX8_windowAt msX8_windowAt mlX8_68 rfl (Nat.le_of_ble_eq_true rfl) ⟨by decide, by decide, by decide, by decide⟩ (c_X8_windowAt hl hV hWn (hbt 10 (by decide) _) hwz) (fun E h9 q => by (obtain ⟨e2, hz9, e1⟩ := Qat_r q); subst e1; subst e2; exact AX_out rfl (by decide) (by decide) (QC_no (x := 1) (by first | (rw [if_pos (by omega)]; done) | (rw [if_neg (by omega), if_pos (by omega)]; done) | (rw [if_neg (by omega), if_neg (by omega), if_pos (by omega)]; done) | (rw [if_neg (by omega), if_neg (by omega), if_neg (by omega), if_pos (by omega)]; done)) (by decide) rfl (fun _ _ => eqAt_rf) hR)) (fun v h9 q => ?_)
  obtain ⟨e2, hw9, e1⟩ := Qat_l q; cases e1; rw [e2]; clear q e2 h9
  have hwW : hasW S s (6 * s + w) := ⟨s0, s4, by omega, by omega⟩
  have hRw := hWs _ hwW
  have hIw := hIW _ _ hwW
  obtain ⟨i1, i2, i3, i4, i5, i6, i7, i8, i9, i10⟩ := id hIw
  have iA := area_le i5 i6 i7 i8
  obtain ⟨k1, f0, f1, rr2, f3, f4, f5, f6, f7, f8, f9, k2, kn2, cs⟩ := id hRw
  have K9 : zK h (nW (6 * s + w)) = 8 + 1 := k1
  have hhs : isWn S s w := by omega
  have hfreeW := RC_freeW hR s0 s4
  have nsw : ∀ j, j ≤ 18 → nS s + j ≠ nW (6 * s + w) ∧ nS s + j ≠ nW (6 * s + w) + 1 := fun j hj => by unfold nS nW; omega
  have nlw : nW (6 * s + w) > 999 ∧ nS s > 999 := by unfold nS nW; omega
  refine e_astore dX8_moveWindow_13 (by decide) rfl rfl ?_
  refine e_iload_n dX8_moveWindow_15 rfl rfl ?_
  refine e_iload dX8_moveWindow_16 rfl ?_
  refine e_callS (As := [zI _, zI _]) dX8_moveWindow_18 moX8_isWindowPlace msX8_isWindowPlace mlX8_41 rfl (Nat.le_of_ble_eq_true rfl) ⟨by decide, by decide, by decide, by decide⟩ (c_X8_isWindowPlace hl x y hxz hyz) (fun E h1 q => by cases q.1) (fun v h9 q => ?_)
  obtain ⟨e1, e2⟩ := q; cases e1; rw [e2]; clear e2 h9
  refine e_if_ne (tgt := 34) dX8_moveWindow_21 (by decide) b2_in (fun c21 => ?_) (fun c21 => ?_)
  · skip
    try simp only [b2_0, b2_n0] at c21
    refine e_aload dX8_moveWindow_34 rfl ?_
    refine e_iload_n dX8_moveWindow_36 rfl rfl ?_
    refine e_putI dX8_moveWindow_37 flX8_87 (Or.inl rfl) trivial K9 (by omega) ?_
    refine e_aload dX8_moveWindow_40 rfl ?_
    refine e_iload dX8_moveWindow_42 rfl ?_
    refine e_putI dX8_moveWindow_44 flX8_90 (Or.inl rfl) trivial K9 (by omega) ?_
    have hI4 := I4_moveWindow (II_4 hI) (w := 6 * s + w) (x := x) (y := y) (by omega) (by omega)
    have fr : ∀ m, m ≠ nW (6 * s + w) → m ≠ nW (6 * s + w) + 1 → eqAt m h (sf (sf h 803 (nW (6 * s + w)) x) 804 (nW (6 * s + w)) y) := fun m m1 _ => eqAt_tr (eqAt_sf m1) (eqAt_sf m1)
    have ee : ∀ f j, ((f ≠ 5 ∧ f ≠ 6) ∨ j ≠ 6 * s + w) → (movS S (6 * s + w) x y) f j = S f j := fun f j h1 => by
      unfold movS up
      rw [if_neg (by omega), if_neg (by omega)]
    have hRw1 : RW (movS S (6 * s + w) x y) (sf (sf h 803 (nW (6 * s + w)) x) 804 (nW (6 * s + w)) y) (6 * s + w) := by
      unfold movS
      refine ⟨k1, ?_, ?_, rr2, ?_, ?_, ?_, ?_, ?_, ?_, ?_, k2, ?_, fun k q0 q1 => ?_⟩
      all_goals first
        | (simp [s_ff, s_Nf, up, f0, f1, f3, f4, f5, f6, f7, f8, f9, kn2]; done)
        | (have z := cs k q0 (by simpa [up] using q1); simpa [up, s_af] using z)
    have hV1 := RV_win hI4.1 hwW (fun f j h1 h2 => ee f j (by omega)) hRw1 fr hV
    have hb1 : ∀ u, (movS S (6 * s + w) x y) 11 u = 0 ∨ (movS S (6 * s + w) x y) 11 u = 1 := fun u => by rw [ee 11 u (by omega)]; exact hbt 11 (by decide) u
    have hC1 : RCo (sf (sf h 803 (nW (6 * s + w)) x) 804 (nW (6 * s + w)) y) s (screenAt S s) := RCo_at (fr _ (nsw 4 (by decide)).1 (nsw 4 (by decide)).2) hC
    refine e_aload dX8_moveWindow_47 rfl ?_
    refine e_callV (As := []) (cb := 6) dX8_moveWindow_49 moX5_repaint mvX5_repaint mlX8_80 (by decide) rfl (show zK (sf (sf h 803 (nW (6 * s + w)) x) 804 (nW (6 * s + w)) y) (nS s) = 6 + 1 from o1) rfl (Nat.le_of_ble_eq_true rfl) ⟨by decide, by decide, by decide, by decide⟩ (c_X5_repaint hl hV1 hb1 hC1) (fun E h1 q => by cases q.1) (fun v h1 q => ?_)
    obtain ⟨e1, hC9, hf9⟩ := q; cases e1
    refine e_iret dX8_moveWindow_52 rfl trivial (by decide) (by decide) ?_
    have hfin := RC_win hI hI4.1 hs0 (fun f j hn => ee f j (by unfold inS at hn; omega)) (fun f hf j => ee f j (by omega)) hV1 (RWn_agf (ee 4 s (by omega)) (RWn_at (fr _ (nsw 1 (by decide)).1 (nsw 1 (by decide)).2) hWn)) (fun m m1 m2 m3 => fr m (m2 (6 * s + w) (by omega) (by omega)).1 (m2 (6 * s + w) (by omega) (by omega)).2) hC9 hf9 (fun x x0 x1 => by
      rw [ee 4 s (by omega)] at x0
      have z := hfreeW x x0 x1
      exact ⟨(fr _ (by unfold nW; omega) (by unfold nW; omega)).1.trans z.1, (fr _ (by unfold nW; omega) (by unfold nW; omega)).1.trans z.2⟩) hR
    exact QC_ok (by first | (rw [if_neg (by omega)]; done) | (rw [if_neg (by omega), if_neg (by omega)]; done) | (rw [if_neg (by omega), if_neg (by omega), if_neg (by omega)]; done) | (rw [if_neg (by omega), if_neg (by omega), if_neg (by omega), if_neg (by omega)]; done)) (by unfold movN; exact congrArg zI (sg_eq _ (fun i _ _ => b2_comm))) (fun m hm => eqAt_tr (fr m (by omega) (by omega)) (hf9 m (by unfold nS; omega))) hfin
  · skip
    try simp only [b2_0, b2_n0] at c21
    refine e_throw (cls := "java/lang/IllegalArgumentException") (text := "a number is out of range") dX8_moveWindow_24 dX8_moveWindow_27 dX8_moveWindow_28 dX8_moveWindow_30 dX8_moveWindow_33 (by decide +kernel) txX8_48 txI_IllegalArgumentException (by decide +kernel) (by decide +kernel) zatX8_52 rfl (by decide) (by decide) (Nat.le_of_ble_eq_true rfl) (by decide) (by decide) ?_
    first
      | exact QC_no (x := 1) (by first | (rw [if_pos (by omega)]; done) | (rw [if_neg (by omega), if_pos (by omega)]; done) | (rw [if_neg (by omega), if_neg (by omega), if_pos (by omega)]; done) | (rw [if_neg (by omega), if_neg (by omega), if_neg (by omega), if_pos (by omega)]; done)) (by decide) rfl (fun _ _ => eqAt_rf) hR
      | exact QC_no (x := 2) (by first | (rw [if_pos (by omega)]; done) | (rw [if_neg (by omega), if_pos (by omega)]; done) | (rw [if_neg (by omega), if_neg (by omega), if_pos (by omega)]; done) | (rw [if_neg (by omega), if_neg (by omega), if_neg (by omega), if_pos (by omega)]; done)) (by decide) rfl (fun _ _ => eqAt_rf) hR
set_option maxHeartbeats 4000000 in
set_option maxRecDepth 100000 in
theorem c_X8_draw {l : Launch} (hl : l.stackTraces = false) {S : S9} {h : zH} {B : Int} (hR : RC S h) (hI : II S B) (s : Int) (hsz : zin s) (w : Int) (hwz : zin w) (x : Int) (hxz : zin x) (y : Int) (hyz : zin y) (a : Int) (haz : zin a) (b : Int) (hbz : zin b) (c : Int) (hcz : zin c)  : zC l MX8_draw [zR (some 2), zI s, zI w, zI x, zI y, zI a, zI b, zI c] h (QC S h (if ¬ isWn S s w then 1 else if ¬ (isXY x y ∧ (1 ≤ a ∧ a ≤ 12) ∧ (1 ≤ b ∧ b ≤ 8) ∧ (0 ≤ c ∧ c ≤ 255)) then 2 else 0) [exI, exA] (zI (drawN S (6 * s + w) x y a b c)) (drawS S (6 * s + w) x y a b c)) := by
  refine zC_of hl rfl rfl (by decide) rfl rfl (Nat.le_of_ble_eq_true rfl) ?_
  have hN : IN S := hI.1.1
  have hIW : IW S := hI.1.2.1
  have hIO : IO S := hI.1.2.2.1
  have hIC : IC S := hI.1.2.2.2.1
  have hIK : IK S := hI.1.2.2.2.2
  have hB3 := hI.2.2.1
  have hbt := hI.2.2.2.2
  obtain ⟨⟨⟨p1, p2, p3, p4, p5⟩, ⟨y1, y2, y3⟩, ⟨x1, x2, x3⟩, v1, v2, v3⟩, hRs, hRc, hRf⟩ := id hR
  obtain ⟨n1, n2, n3, n4, n5⟩ := id hN
  refine e_aload_n dX8_draw_0 rfl rfl ?_
  refine e_iload_n dX8_draw_1 rfl rfl ?_
  refine e_callV (As := [zI _]) (cb := 9) dX8_draw_2 moX8_sessionAt mvX8_sessionAt mlX8_37 (by decide) rfl (show zK _ 2 = 9 + 1 from p1) rfl (Nat.le_of_ble_eq_true rfl) ⟨by decide, by decide, by decide, by decide⟩ (c_X8_sessionAt hl hR hN s hsz) (fun E h9 q => by (obtain ⟨e2, hz, e1⟩ := Qat_r q); subst e1; subst e2; exact AX_out rfl (by decide) (by decide) (QC_no (x := 1) (by first | (rw [if_pos (by omega)]; done) | (rw [if_neg (by omega), if_pos (by omega)]; done) | (rw [if_neg (by omega), if_neg (by omega), if_pos (by omega)]; done) | (rw [if_neg (by omega), if_neg (by omega), if_neg (by omega), if_pos (by omega)]; done)) (by decide) rfl (fun _ _ => eqAt_rf) hR)) (fun v h9 q => ?_)
  obtain ⟨e2, hs0, e1⟩ := Qat_l q; cases e1; rw [e2]; clear q e2 h9
  obtain ⟨hV, ⟨ed, cp, kn, hK⟩, hC, hWn, hCp, hT, hRr, hRr0⟩ := hRs s hs0
  obtain ⟨⟨s0, s4⟩, -, -, -, hSo, hP, hWs⟩ := id hV
  obtain ⟨o1, o2, o3, o4, o5, o6, o7, o8, o9⟩ := id hSo
  have hb4 := n5 s s0 s4
  have K6 : zK h (nS s) = 6 + 1 := o1
  refine e_astore dX8_draw_5 (by decide) rfl rfl ?_
  refine e_aload dX8_draw_7 rfl ?_
  refine e_iload_n dX8_draw_9 rfl rfl ?_
  refine e_callS (As := [zR _, zI _]) dX8_draw_10 moX8_windowAt msX8_windowAt mlX8_68 rfl (Nat.le_of_ble_eq_true rfl) ⟨by decide, by decide, by decide, by decide⟩ (c_X8_windowAt hl hV hWn (hbt 10 (by decide) _) hwz) (fun E h9 q => by (obtain ⟨e2, hz9, e1⟩ := Qat_r q); subst e1; subst e2; exact AX_out rfl (by decide) (by decide) (QC_no (x := 1) (by first | (rw [if_pos (by omega)]; done) | (rw [if_neg (by omega), if_pos (by omega)]; done) | (rw [if_neg (by omega), if_neg (by omega), if_pos (by omega)]; done) | (rw [if_neg (by omega), if_neg (by omega), if_neg (by omega), if_pos (by omega)]; done)) (by decide) rfl (fun _ _ => eqAt_rf) hR)) (fun v h9 q => ?_)
  obtain ⟨e2, hw9, e1⟩ := Qat_l q; cases e1; rw [e2]; clear q e2 h9
  have hwW : hasW S s (6 * s + w) := ⟨s0, s4, by omega, by omega⟩
  have hRw := hWs _ hwW
  have hIw := hIW _ _ hwW
  obtain ⟨i1, i2, i3, i4, i5, i6, i7, i8, i9, i10⟩ := id hIw
  have iA := area_le i5 i6 i7 i8
  obtain ⟨k1, f0, f1, rr2, f3, f4, f5, f6, f7, f8, f9, k2, kn2, cs⟩ := id hRw
  have K9 : zK h (nW (6 * s + w)) = 8 + 1 := k1
  have hhs : isWn S s w := by omega
  have hfreeW := RC_freeW hR s0 s4
  have nsw : ∀ j, j ≤ 18 → nS s + j ≠ nW (6 * s + w) ∧ nS s + j ≠ nW (6 * s + w) + 1 := fun j hj => by unfold nS nW; omega
  have nlw : nW (6 * s + w) > 999 ∧ nS s > 999 := by unfold nS nW; omega
  refine e_astore dX8_draw_13 (by decide) rfl rfl ?_
  refine e_iload_n dX8_draw_15 rfl rfl ?_
  refine e_iload dX8_draw_16 rfl ?_
  refine e_callS (As := [zI _, zI _]) dX8_draw_18 moX8_isScreenCell msX8_isScreenCell mlX8_113 rfl (Nat.le_of_ble_eq_true rfl) ⟨by decide, by decide, by decide, by decide⟩ (c_X8_isScreenCell hl x y hxz hyz) (fun E h1 q => by cases q.1) (fun v h9 q => ?_)
  obtain ⟨e1, e2⟩ := q; cases e1; rw [e2]; clear e2 h9
  refine e_if_eq (tgt := 46) dX8_draw_21 (by decide) b2_in (fun c21 => ?_) (fun c21 => ?_)
  · skip
    try simp only [b2_0, b2_n0] at c21
    refine e_throw (cls := "java/lang/IllegalArgumentException") (text := "a number is out of range") dX8_draw_46 dX8_draw_49 dX8_draw_50 dX8_draw_52 dX8_draw_55 (by decide +kernel) txX8_48 txI_IllegalArgumentException (by decide +kernel) (by decide +kernel) zatX8_52 rfl (by decide) (by decide) (Nat.le_of_ble_eq_true rfl) (by decide) (by decide) ?_
    first
      | exact QC_no (x := 1) (by first | (rw [if_pos (by omega)]; done) | (rw [if_neg (by omega), if_pos (by omega)]; done) | (rw [if_neg (by omega), if_neg (by omega), if_pos (by omega)]; done) | (rw [if_neg (by omega), if_neg (by omega), if_neg (by omega), if_pos (by omega)]; done)) (by decide) rfl (fun _ _ => eqAt_rf) hR
      | exact QC_no (x := 2) (by first | (rw [if_pos (by omega)]; done) | (rw [if_neg (by omega), if_pos (by omega)]; done) | (rw [if_neg (by omega), if_neg (by omega), if_pos (by omega)]; done) | (rw [if_neg (by omega), if_neg (by omega), if_neg (by omega), if_pos (by omega)]; done)) (by decide) rfl (fun _ _ => eqAt_rf) hR
  · skip
    try simp only [b2_0, b2_n0] at c21
    refine e_iload dX8_draw_24 rfl ?_
    refine e_iload dX8_draw_26 rfl ?_
    refine e_callS (As := [zI _, zI _]) dX8_draw_28 moX8_isSize msX8_isSize mlX8_45 rfl (Nat.le_of_ble_eq_true rfl) ⟨by decide, by decide, by decide, by decide⟩ (c_X8_isSize hl a b haz hbz) (fun E h1 q => by cases q.1) (fun v h9 q => ?_)
    obtain ⟨e1, e2⟩ := q; cases e1; rw [e2]; clear e2 h9
    refine e_if_eq (tgt := 46) dX8_draw_31 (by decide) b2_in (fun c31 => ?_) (fun c31 => ?_)
    · skip
      try simp only [b2_0, b2_n0] at c31
      refine e_throw (cls := "java/lang/IllegalArgumentException") (text := "a number is out of range") dX8_draw_46 dX8_draw_49 dX8_draw_50 dX8_draw_52 dX8_draw_55 (by decide +kernel) txX8_48 txI_IllegalArgumentException (by decide +kernel) (by decide +kernel) zatX8_52 rfl (by decide) (by decide) (Nat.le_of_ble_eq_true rfl) (by decide) (by decide) ?_
      first
        | exact QC_no (x := 1) (by first | (rw [if_pos (by omega)]; done) | (rw [if_neg (by omega), if_pos (by omega)]; done) | (rw [if_neg (by omega), if_neg (by omega), if_pos (by omega)]; done) | (rw [if_neg (by omega), if_neg (by omega), if_neg (by omega), if_pos (by omega)]; done)) (by decide) rfl (fun _ _ => eqAt_rf) hR
        | exact QC_no (x := 2) (by first | (rw [if_pos (by omega)]; done) | (rw [if_neg (by omega), if_pos (by omega)]; done) | (rw [if_neg (by omega), if_neg (by omega), if_pos (by omega)]; done) | (rw [if_neg (by omega), if_neg (by omega), if_neg (by omega), if_pos (by omega)]; done)) (by decide) rfl (fun _ _ => eqAt_rf) hR
    · skip
      try simp only [b2_0, b2_n0] at c31
      refine e_iload dX8_draw_34 rfl ?_
      refine e_iconst dX8_draw_36 ?_
      refine e_sipush dX8_draw_37 (by decide) ?_
      refine e_callS (As := [zI _, zI _, zI _]) dX8_draw_40 moX8_isWithin msX8_isWithin mlX8_116 rfl (Nat.le_of_ble_eq_true rfl) ⟨by decide, by decide, by decide, by decide⟩ (c_X8_isWithin hl c 0 255 hcz (by decide) (by decide)) (fun E h1 q => by cases q.1) (fun v h9 q => ?_)
      obtain ⟨e1, e2⟩ := q; cases e1; rw [e2]; clear e2 h9
      refine e_if_ne (tgt := 56) dX8_draw_43 (by decide) b2_in (fun c43 => ?_) (fun c43 => ?_)
      · skip
        try simp only [b2_0, b2_n0] at c43
        refine e_aload dX8_draw_56 rfl ?_
        refine e_iload_n dX8_draw_58 rfl rfl ?_
        refine e_iload dX8_draw_59 rfl ?_
        refine e_iload dX8_draw_61 rfl ?_
        refine e_iload dX8_draw_63 rfl ?_
        refine e_iload dX8_draw_65 rfl ?_
        refine e_callV (As := [zI _, zI _, zI _, zI _, zI _]) (cb := 8) dX8_draw_67 moX7_fillPart mvX7_fillPart mlX8_120 (by decide) rfl K9 rfl (Nat.le_of_ble_eq_true rfl) ⟨by decide, by decide, by decide, by decide⟩ (c_X7_fillPart hl hRw hIw x y a b c (by omega) (by omega) (by omega) (by omega) hcz) (fun E h1 q => by cases q.1) (fun v h1 q => ?_)
        obtain ⟨e1, hRd, hf8⟩ := q; cases e1
        rename zH => h8
        have hI4 := I4_draw (II_4 hI) (w := w) (x := x) (y := y) (a := a) (b := b) (c := c) hhs s4
        have fr : ∀ m, m ≠ nW (6 * s + w) → m ≠ nW (6 * s + w) + 1 → eqAt m h h8 := fun m _ m2 => hf8 m m2
        have ee : ∀ f j, (f ≠ 14 ∨ (j < 96 * (6 * s + w) ∨ 96 * (6 * s + w) + 96 ≤ j)) → (drawS S (6 * s + w) x y a b c) f j = S f j := fun f j h1 => by
          unfold drawS drawI
          rw [if_neg (by omega)]
        have hRw1 : RW (drawS S (6 * s + w) x y a b c) h8 (6 * s + w) := hRd
        have hV1 := RV_win hI4.1 hwW (fun f j h1 h2 => ee f j (by omega)) hRw1 fr hV
        have hb1 : ∀ u, (drawS S (6 * s + w) x y a b c) 11 u = 0 ∨ (drawS S (6 * s + w) x y a b c) 11 u = 1 := fun u => by rw [ee 11 u (by omega)]; exact hbt 11 (by decide) u
        have hC1 : RCo h8 s (screenAt S s) := RCo_at (fr _ (nsw 4 (by decide)).1 (nsw 4 (by decide)).2) hC
        refine e_istore dX8_draw_70 (by decide) rfl rfl ?_
        refine e_aload dX8_draw_72 rfl ?_
        refine e_callV (As := []) (cb := 6) dX8_draw_74 moX5_repaint mvX5_repaint mlX8_80 (by decide) rfl (show zK h8 (nS s) = 6 + 1 from (fr _ (nsw 0 (by decide)).1 (nsw 0 (by decide)).2).1.trans o1) rfl (Nat.le_of_ble_eq_true rfl) ⟨by decide, by decide, by decide, by decide⟩ (c_X5_repaint hl hV1 hb1 hC1) (fun E h1 q => by cases q.1) (fun v h1 q => ?_)
        obtain ⟨e1, hC9, hf9⟩ := q; cases e1
        refine e_pop dX8_draw_77 rfl ?_
        refine e_iload dX8_draw_78 rfl ?_
        refine e_iret dX8_draw_80 rfl trivial (by decide) (by decide) ?_
        have hfin := RC_win hI hI4.1 hs0 (fun f j hn => ee f j (by unfold inS at hn; omega)) (fun f hf j => ee f j (by omega)) hV1 (RWn_agf (ee 4 s (by omega)) (RWn_at (fr _ (nsw 1 (by decide)).1 (nsw 1 (by decide)).2) hWn)) (fun m m1 m2 m3 => fr m (m2 (6 * s + w) (by omega) (by omega)).1 (m2 (6 * s + w) (by omega) (by omega)).2) hC9 hf9 (fun x x0 x1 => by
          rw [ee 4 s (by omega)] at x0
          have z := hfreeW x x0 x1
          exact ⟨(fr _ (by unfold nW; omega) (by unfold nW; omega)).1.trans z.1, (fr _ (by unfold nW; omega) (by unfold nW; omega)).1.trans z.2⟩) hR
        exact QC_ok (by first | (rw [if_neg (by omega)]; done) | (rw [if_neg (by omega), if_neg (by omega)]; done) | (rw [if_neg (by omega), if_neg (by omega), if_neg (by omega)]; done) | (rw [if_neg (by omega), if_neg (by omega), if_neg (by omega), if_neg (by omega)]; done)) rfl (fun m hm => eqAt_tr (fr m (by omega) (by omega)) (hf9 m (by unfold nS; omega))) hfin
      · skip
        try simp only [b2_0, b2_n0] at c43
        refine e_throw (cls := "java/lang/IllegalArgumentException") (text := "a number is out of range") dX8_draw_46 dX8_draw_49 dX8_draw_50 dX8_draw_52 dX8_draw_55 (by decide +kernel) txX8_48 txI_IllegalArgumentException (by decide +kernel) (by decide +kernel) zatX8_52 rfl (by decide) (by decide) (Nat.le_of_ble_eq_true rfl) (by decide) (by decide) ?_
        first
          | exact QC_no (x := 1) (by first | (rw [if_pos (by omega)]; done) | (rw [if_neg (by omega), if_pos (by omega)]; done) | (rw [if_neg (by omega), if_neg (by omega), if_pos (by omega)]; done) | (rw [if_neg (by omega), if_neg (by omega), if_neg (by omega), if_pos (by omega)]; done)) (by decide) rfl (fun _ _ => eqAt_rf) hR
          | exact QC_no (x := 2) (by first | (rw [if_pos (by omega)]; done) | (rw [if_neg (by omega), if_pos (by omega)]; done) | (rw [if_neg (by omega), if_neg (by omega), if_pos (by omega)]; done) | (rw [if_neg (by omega), if_neg (by omega), if_neg (by omega), if_pos (by omega)]; done)) (by decide) rfl (fun _ _ => eqAt_rf) hR
