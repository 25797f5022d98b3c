set_option maxHeartbeats 4000000 in
set_option maxRecDepth 100000 in
theorem c_X8_isSession {l : Launch} (hl : l.stackTraces = false) {S : S9} {h : zH} (hR : RC S h) (hN : IN S) (s : Int) (hs : zin s)  : zC l MX8_isSession [zR (some 2), zI s] h (fun o h' => o = .inl (some (zI (b2 (isS S s)))) ∧ h' = h) := by
  refine zC_of hl rfl rfl (by decide) rfl rfl (Nat.le_of_ble_eq_true rfl) ?_
  obtain ⟨⟨⟨p1, p2, p3, p4, p5⟩, ⟨y1, y2, y3⟩, ⟨x1, x2, x3⟩, v1, v2, v3⟩, hRs, hRc, hRf⟩ := id hR
  obtain ⟨n1, n2, n3, n4, n5⟩ := id hN
  refine e_iload_n dX8_isSession_0 rfl rfl ?_
  refine e_iconst dX8_isSession_1 ?_
  refine e_iconst dX8_isSession_2 ?_
  refine e_callS (As := [zI _, zI _, zI _]) dX8_isSession_3 moX8_isWithin msX8_isWithin mlX8_116 rfl (Nat.le_of_ble_eq_true rfl) ⟨by decide, by decide, by decide, by decide⟩ (c_X8_isWithin hl s 0 3 hs (by decide) (by decide)) (fun E h1 q => by cases q.1) (fun v h9 q => ?_)
  obtain ⟨e1, e2⟩ := q; cases e1; rw [e2]; clear e2 h9
  refine e_if_eq (tgt := 22) dX8_isSession_6 (by decide) b2_in (fun c6 => ?_) (fun c6 => ?_)
  · skip
    try simp only [b2_0, b2_n0] at c6
    refine e_iconst dX8_isSession_22 ?_
    refine e_iret dX8_isSession_23 rfl (by first | exact Or.inl rfl | exact Or.inr rfl | assumption | exact b2_01) (by decide) (by decide) ?_
    exact ⟨zqe (by first | exact (b2_t (by omega)).symm | exact (b2_f (by omega)).symm), rfl⟩
  · skip
    try simp only [b2_0, b2_n0] at c6
    refine e_aload_n dX8_isSession_9 rfl rfl ?_
    refine e_getR dX8_isSession_10 flX8_11 rfl (show zK h 2 = 9 + 1 from p1) p2 ?_
    refine e_iload_n dX8_isSession_13 rfl rfl ?_
    refine e_aald dX8_isSession_14 (t := 5) y1 (by decide) (by decide) (by omega) (by rw [y2]; omega) (y3 s (by omega) (by omega)) ?_
    refine e_ifnull (tgt := 22) dX8_isSession_15 (by decide) (fun c15 => ?_) (fun r15 c15 => ?_)
    · skip
      have z9 := ses_none2 c15
      refine e_iconst dX8_isSession_22 ?_
      refine e_iret dX8_isSession_23 rfl (by first | exact Or.inl rfl | exact Or.inr rfl | assumption | exact b2_01) (by decide) (by decide) ?_
      exact ⟨zqe (by first | exact (b2_t (by omega)).symm | exact (b2_f (by omega)).symm), rfl⟩
    · skip
      have z9 := (ses_some c15).1
      refine e_iconst dX8_isSession_18 ?_
      refine e_goto (tgt := 23) dX8_isSession_19 (by decide) ?_
      refine e_iret dX8_isSession_23 rfl (by first | exact Or.inl rfl | exact Or.inr rfl | assumption | exact b2_01) (by decide) (by decide) ?_
      exact ⟨zqe (by first | exact (b2_t (by omega)).symm | exact (b2_f (by omega)).symm), rfl⟩
set_option maxHeartbeats 4000000 in
set_option maxRecDepth 100000 in
theorem c_X8_sessionAt {l : Launch} (hl : l.stackTraces = false) {S : S9} {h : zH} (hR : RC S h) (hN : IN S) (s : Int) (hs : zin s)  : zC l MX8_sessionAt [zR (some 2), zI s] h (Qat (isS S s) (zR (some (nS s))) exI h) := by
  refine zC_of hl rfl rfl (by decide) rfl rfl (Nat.le_of_ble_eq_true rfl) ?_
  obtain ⟨⟨⟨p1, p2, p3, p4, p5⟩, ⟨y1, y2, y3⟩, ⟨x1, x2, x3⟩, v1, v2, v3⟩, hRs, hRc, hRf⟩ := id hR
  obtain ⟨n1, n2, n3, n4, n5⟩ := id hN
  refine e_aload_n dX8_sessionAt_0 rfl rfl ?_
  refine e_iload_n dX8_sessionAt_1 rfl rfl ?_
  refine e_callV (As := [zI _]) (cb := 9) dX8_sessionAt_2 moX8_isSession mvX8_isSession mlX8_241 (by decide) rfl (show zK h 2 = 9 + 1 from p1) rfl (Nat.le_of_ble_eq_true rfl) ⟨by decide, by decide, by decide, by decide⟩ (c_X8_isSession hl hR hN s hs) (fun E h1 q => by cases q.1) (fun v h9 q => ?_)
  obtain ⟨e1, e2⟩ := q; cases e1; rw [e2]; clear e2 h9
  refine e_if_ne (tgt := 18) dX8_sessionAt_5 (by decide) b2_in (fun c5 => ?_) (fun c5 => ?_)
  · skip
    try simp only [b2_0, b2_n0] at c5
    refine e_aload_n dX8_sessionAt_18 rfl rfl ?_
    refine e_getR dX8_sessionAt_19 flX8_11 rfl (show zK h 2 = 9 + 1 from p1) p2 ?_
    refine e_iload_n dX8_sessionAt_22 rfl rfl ?_
    refine e_aald dX8_sessionAt_23 (t := 5) y1 (by decide) (by decide) (by omega) (by rw [y2]; omega) (y3 s (by omega) (by omega)) ?_
    rw [if_pos (show s < S 1 0 by omega)]
    refine e_aret dX8_sessionAt_24 rfl rfl (by decide) (by decide) ?_
    exact Qat_yes (by omega) rfl
  · skip
    try simp only [b2_0, b2_n0] at c5
    refine e_throw (cls := "java/lang/IndexOutOfBoundsException") (text := "there is no such session") dX8_sessionAt_8 dX8_sessionAt_11 dX8_sessionAt_12 dX8_sessionAt_14 dX8_sessionAt_17 (by decide +kernel) txX8_245 txI_IndexOutOfBoundsException (by decide +kernel) (by decide +kernel) zatX8_249 rfl (by decide) (by decide) (Nat.le_of_ble_eq_true rfl) (by decide) (by decide) ?_
    exact Qat_not (by omega) rfl
set_option maxHeartbeats 4000000 in
set_option maxRecDepth 100000 in
theorem c_X8_clientAt {l : Launch} (hl : l.stackTraces = false) {S : S9} {h : zH} (hR : RC S h) (hN : IN S) (c : Int) (hc : zin c)  : zC l MX8_clientAt [zR (some 2), zI c] h (Qat (isC S c) (zR (some (nC c))) exI h) := by
  refine zC_of hl rfl rfl (by decide) rfl rfl (Nat.le_of_ble_eq_true rfl) ?_
  obtain ⟨⟨⟨p1, p2, p3, p4, p5⟩, ⟨y1, y2, y3⟩, ⟨x1, x2, x3⟩, v1, v2, v3⟩, hRs, hRc, hRf⟩ := id hR
  obtain ⟨n1, n2, n3, n4, n5⟩ := id hN
  refine e_iload_n dX8_clientAt_0 rfl rfl ?_
  refine e_iconst dX8_clientAt_1 ?_
  refine e_iconst dX8_clientAt_2 ?_
  refine e_callS (As := [zI _, zI _, zI _]) dX8_clientAt_3 moX8_isWithin msX8_isWithin mlX8_116 rfl (Nat.le_of_ble_eq_true rfl) ⟨by decide, by decide, by decide, by decide⟩ (c_X8_isWithin hl c 0 5 hc (by decide) (by decide)) (fun E h1 q => by cases q.1) (fun v h9 q => ?_)
  obtain ⟨e1, e2⟩ := q; cases e1; rw [e2]; clear e2 h9
  refine e_if_eq (tgt := 18) dX8_clientAt_6 (by decide) b2_in (fun c6 => ?_) (fun c6 => ?_)
  · skip
    try simp only [b2_0, b2_n0] at c6
    refine e_throwW (cls := "java/lang/IndexOutOfBoundsException") (text := "there is no such client") dX8_clientAt_18 dX8_clientAt_21 dX8_clientAt_22 dX8_clientAt_25 dX8_clientAt_28 (by decide +kernel) txX8_245 txI_IndexOutOfBoundsException (by decide +kernel) (by decide +kernel) zatX8_249 rfl (by decide) (by decide) (Nat.le_of_ble_eq_true rfl) (by decide) (by decide) ?_
    exact Qat_not (by omega) rfl
  · skip
    try simp only [b2_0, b2_n0] at c6
    refine e_aload_n dX8_clientAt_9 rfl rfl ?_
    refine e_getR dX8_clientAt_10 flX8_17 rfl (show zK h 2 = 9 + 1 from p1) p3 ?_
    refine e_iload_n dX8_clientAt_13 rfl rfl ?_
    refine e_aald dX8_clientAt_14 (t := 4) x1 (by decide) (by decide) (by omega) (by rw [x2]; omega) (x3 c (by omega) (by omega)) ?_
    refine e_ifnonnull (tgt := 29) dX8_clientAt_15 (by decide) (fun r15 c15 => ?_) (fun c15 => ?_)
    · skip
      have z9 := (ses_some c15).1
      refine e_aload_n dX8_clientAt_29 rfl rfl ?_
      refine e_getR dX8_clientAt_30 flX8_17 rfl (show zK h 2 = 9 + 1 from p1) p3 ?_
      refine e_iload_n dX8_clientAt_33 rfl rfl ?_
      refine e_aald dX8_clientAt_34 (t := 4) x1 (by decide) (by decide) (by omega) (by rw [x2]; omega) (x3 c (by omega) (by omega)) ?_
      rw [if_pos (show c < S 2 0 by omega)]
      refine e_aret dX8_clientAt_35 rfl rfl (by decide) (by decide) ?_
      exact Qat_yes (by omega) rfl
    · skip
      have z9 := ses_none2 c15
      refine e_throwW (cls := "java/lang/IndexOutOfBoundsException") (text := "there is no such client") dX8_clientAt_18 dX8_clientAt_21 dX8_clientAt_22 dX8_clientAt_25 dX8_clientAt_28 (by decide +kernel) txX8_245 txI_IndexOutOfBoundsException (by decide +kernel) (by decide +kernel) zatX8_249 rfl (by decide) (by decide) (Nat.le_of_ble_eq_true rfl) (by decide) (by decide) ?_
      exact Qat_not (by omega) rfl
set_option maxHeartbeats 4000000 in
set_option maxRecDepth 100000 in
theorem c_X8_windowAt {l : Launch} (hl : l.stackTraces = false) {S : S9} {h : zH} {s w : Int} (hV : RV S h s) (hWn : RWn S h s) (hb : S 10 (6 * s + w) = 0 ∨ S 10 (6 * s + w) = 1) (hw : zin w)  : zC l MX8_windowAt [zR (some (nS s)), zI w] h (Qat (0 ≤ w ∧ w < S 4 s ∧ S 10 (6 * s + w) = 1) (zR (some (nW (6 * s + w)))) exI h) := by
  refine zC_of hl rfl rfl (by decide) rfl rfl (Nat.le_of_ble_eq_true rfl) ?_
  obtain ⟨⟨s0, s1⟩, hN, hI, hO, hSo, -, hWs⟩ := id hV
  obtain ⟨g1, g2, g3⟩ := id hWn
  have hb4 := hN.2.2.2.2 s s0 s1
  refine e_iload_n dX8_windowAt_0 rfl rfl ?_
  refine e_iconst dX8_windowAt_1 ?_
  refine e_aload_n dX8_windowAt_2 rfl rfl ?_
  refine e_getI dX8_windowAt_3 flX8_53 rfl (show zK h (nS s) = 6 + 1 from hSo.1) hSo.2.2.2.2.2.2.2.2 (fun r3 => ?_)
  refine e_iconst dX8_windowAt_6 ?_
  refine e_isub dX8_windowAt_7 ?_
  refine e_callS (As := [zI _, zI _, zI _]) dX8_windowAt_8 moX8_isWithin msX8_isWithin mlX8_116 rfl (Nat.le_of_ble_eq_true rfl) ⟨by decide, by decide, by decide, by decide⟩ (c_X8_isWithin hl w 0 (S 4 s - 1) hw (by decide) (by omega)) (fun E h1 q => by cases q.1) (fun v h9 q => ?_)
  obtain ⟨e1, e2⟩ := q; cases e1; rw [e2]; clear e2 h9
  refine e_if_ne (tgt := 25) dX8_windowAt_11 (by decide) b2_in (fun c11 => ?_) (fun c11 => ?_)
  · skip
    try simp only [b2_0, b2_n0] at c11
    refine e_aload_n dX8_windowAt_25 rfl rfl ?_
    refine e_getR dX8_windowAt_26 flX8_333 rfl (show zK h (nS s) = 6 + 1 from hSo.1) hSo.2.1 ?_
    refine e_iload_n dX8_windowAt_29 rfl rfl ?_
    refine e_aald dX8_windowAt_30 (t := 6) g1 (by decide) (by decide) (by omega) (by rw [g2]; omega) (g3 w (by omega) (by omega)) ?_
    have hRw : RW S h (6 * s + w) := hWs _ ⟨s0, s1, by omega, by omega⟩
    refine e_astore_n dX8_windowAt_31 rfl (by decide) rfl rfl ?_
    refine e_aload_n dX8_windowAt_32 rfl rfl ?_
    refine e_ifnull (tgt := 43) dX8_windowAt_33 (by decide) (fun c33 => ?_) (fun r33 c33 => ?_)
    · skip
      cases c33
    · skip
      refine e_aload_n dX8_windowAt_36 rfl rfl ?_
      refine e_getI dX8_windowAt_37 flX8_72 rfl (show zK h (nW (6 * s + w)) = 8 + 1 from hRw.1) hRw.2.2.2.2.2.2.1 (fun r37 => ?_)
      refine e_if_ne (tgt := 54) dX8_windowAt_40 (by decide) (by omega) (fun c40 => ?_) (fun c40 => ?_)
      · skip
        try simp only [b2_0, b2_n0] at c40
        refine e_aload_n dX8_windowAt_54 rfl rfl ?_
        refine e_aret dX8_windowAt_55 rfl rfl (by decide) (by decide) ?_
        exact Qat_yes (by omega) rfl
      · skip
        try simp only [b2_0, b2_n0] at c40
        refine e_throwW (cls := "java/lang/IndexOutOfBoundsException") (text := "there is no such window that is open") dX8_windowAt_43 dX8_windowAt_46 dX8_windowAt_47 dX8_windowAt_50 dX8_windowAt_53 (by decide +kernel) txX8_245 txI_IndexOutOfBoundsException (by decide +kernel) (by decide +kernel) zatX8_249 rfl (by decide) (by decide) (Nat.le_of_ble_eq_true rfl) (by decide) (by decide) ?_
        exact Qat_not (by omega) rfl
  · skip
    try simp only [b2_0, b2_n0] at c11
    refine e_throwW (cls := "java/lang/IndexOutOfBoundsException") (text := "there is no such window") dX8_windowAt_14 dX8_windowAt_17 dX8_windowAt_18 dX8_windowAt_21 dX8_windowAt_24 (by decide +kernel) txX8_245 txI_IndexOutOfBoundsException (by decide +kernel) (by decide +kernel) zatX8_249 rfl (by decide) (by decide) (Nat.le_of_ble_eq_true rfl) (by decide) (by decide) ?_
    exact Qat_not (by omega) rfl
