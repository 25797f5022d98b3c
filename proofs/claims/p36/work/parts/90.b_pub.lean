set_option maxHeartbeats 4000000 in
set_option maxRecDepth 100000 in
theorem c_X8_copy {l : Launch} (hl : l.stackTraces = false) {S : S9} {h : zH} {B : Int} (hR : RC S h) (hI : II S B) (s : Int) (hsz : zin s) (t : Int) (htz : zin t) (v : Int) (hvz : zin v)  : zC l MX8_copy [zR (some 2), zI s, zI t, zI v] h (QC S h (if ¬ isS S s then 1 else if ¬ ((0 ≤ t ∧ t ≤ 2) ∧ (0 ≤ v ∧ v ≤ 9999)) then 2 else 0) [exI, exA] (zI (if S 22 s = 0 then -1 else S 23 s)) (copS S s t v)) := by
  refine zC_of hl rfl rfl (by decide) rfl rfl (Nat.le_of_ble_eq_true rfl) ?_
  have hN : IN S := hI.1.1
  have hIW : IW S := hI.1.2.1
  have hIO : IO S := hI.1.2.2.1
  have hIC : IC S := hI.1.2.2.2.1
  have hIK : IK S := hI.1.2.2.2.2
  have hB3 := hI.2.2.1
  have hbt := hI.2.2.2.2
  obtain ⟨⟨⟨p1, p2, p3, p4, p5⟩, ⟨y1, y2, y3⟩, ⟨x1, x2, x3⟩, v1, v2, v3⟩, hRs, hRc, hRf⟩ := id hR
  obtain ⟨n1, n2, n3, n4, n5⟩ := id hN
  refine e_aload_n dX8_copy_0 rfl rfl ?_
  refine e_iload_n dX8_copy_1 rfl rfl ?_
  refine e_callV (As := [zI _]) (cb := 9) dX8_copy_2 moX8_sessionAt mvX8_sessionAt mlX8_37 (by decide) rfl (show zK _ 2 = 9 + 1 from p1) rfl (Nat.le_of_ble_eq_true rfl) ⟨by decide, by decide, by decide, by decide⟩ (c_X8_sessionAt hl hR hN s hsz) (fun E h9 q => by (obtain ⟨e2, hz, e1⟩ := Qat_r q); subst e1; subst e2; exact AX_out rfl (by decide) (by decide) (QC_no (x := 1) (by first | (rw [if_pos (by omega)]; done) | (rw [if_neg (by omega), if_pos (by omega)]; done) | (rw [if_neg (by omega), if_neg (by omega), if_pos (by omega)]; done) | (rw [if_neg (by omega), if_neg (by omega), if_neg (by omega), if_pos (by omega)]; done)) (by decide) rfl (fun _ _ => eqAt_rf) hR)) (fun v h9 q => ?_)
  obtain ⟨e2, hs0, e1⟩ := Qat_l q; cases e1; rw [e2]; clear q e2 h9
  obtain ⟨hV, ⟨ed, cp, kn, hK⟩, hC, hWn, hCp, hT, hRr, hRr0⟩ := hRs s hs0
  obtain ⟨⟨s0, s4⟩, -, -, -, hSo, hP, hWs⟩ := id hV
  obtain ⟨o1, o2, o3, o4, o5, o6, o7, o8, o9⟩ := id hSo
  have hb4 := n5 s s0 s4
  have K6 : zK h (nS s) = 6 + 1 := o1
  refine e_getR dX8_copy_5 flX8_228 rfl K6 o6 ?_
  refine e_astore dX8_copy_8 (by decide) rfl rfl ?_
  refine e_iload_n dX8_copy_10 rfl rfl ?_
  refine e_iconst dX8_copy_11 ?_
  refine e_iconst dX8_copy_12 ?_
  refine e_callS (As := [zI _, zI _, zI _]) dX8_copy_13 moX8_isWithin msX8_isWithin mlX8_116 rfl (Nat.le_of_ble_eq_true rfl) ⟨by decide, by decide, by decide, by decide⟩ (c_X8_isWithin hl t 0 2 htz (by decide) (by decide)) (fun E h1 q => by cases q.1) (fun v h9 q => ?_)
  obtain ⟨e1, e2⟩ := q; cases e1; rw [e2]; clear e2 h9
  refine e_if_eq (tgt := 30) dX8_copy_16 (by decide) b2_in (fun c16 => ?_) (fun c16 => ?_)
  · skip
    try simp only [b2_0, b2_n0] at c16
    refine e_throw (cls := "java/lang/IllegalArgumentException") (text := "a number is out of range") dX8_copy_30 dX8_copy_33 dX8_copy_34 dX8_copy_36 dX8_copy_39 (by decide +kernel) txX8_48 txI_IllegalArgumentException (by decide +kernel) (by decide +kernel) zatX8_52 rfl (by decide) (by decide) (Nat.le_of_ble_eq_true rfl) (by decide) (by decide) ?_
    first
      | exact QC_no (x := 1) (by first | (rw [if_pos (by omega)]; done) | (rw [if_neg (by omega), if_pos (by omega)]; done) | (rw [if_neg (by omega), if_neg (by omega), if_pos (by omega)]; done) | (rw [if_neg (by omega), if_neg (by omega), if_neg (by omega), if_pos (by omega)]; done)) (by decide) rfl (fun _ _ => eqAt_rf) hR
      | exact QC_no (x := 2) (by first | (rw [if_pos (by omega)]; done) | (rw [if_neg (by omega), if_pos (by omega)]; done) | (rw [if_neg (by omega), if_neg (by omega), if_pos (by omega)]; done) | (rw [if_neg (by omega), if_neg (by omega), if_neg (by omega), if_pos (by omega)]; done)) (by decide) rfl (fun _ _ => eqAt_rf) hR
  · skip
    try simp only [b2_0, b2_n0] at c16
    refine e_iload_n dX8_copy_19 rfl rfl ?_
    refine e_iconst dX8_copy_20 ?_
    refine e_sipush dX8_copy_21 (by decide) ?_
    refine e_callS (As := [zI _, zI _, zI _]) dX8_copy_24 moX8_isWithin msX8_isWithin mlX8_116 rfl (Nat.le_of_ble_eq_true rfl) ⟨by decide, by decide, by decide, by decide⟩ (c_X8_isWithin hl v 0 9999 hvz (by decide) (by decide)) (fun E h1 q => by cases q.1) (fun v h9 q => ?_)
    obtain ⟨e1, e2⟩ := q; cases e1; rw [e2]; clear e2 h9
    refine e_if_ne (tgt := 40) dX8_copy_27 (by decide) b2_in (fun c27 => ?_) (fun c27 => ?_)
    · skip
      try simp only [b2_0, b2_n0] at c27
      refine e_aload dX8_copy_40 rfl ?_
      have hci : zf h 300 (nS s + 5) = if S 22 s = 0 then -1 else S 23 s := by
        by_cases z : S 22 s = 0
        · rw [if_pos z]; exact hCp.2.1 z
        · rw [if_neg z]; exact (hCp.2.2 z).1
      obtain ⟨b, eb, hb⟩ := shl_1 s0 s4
      refine e_getI dX8_copy_42 flX8_232 rfl (show zK h (nS s + 5) = 3 + 1 from hCp.1) hci (fun r42 => ?_)
      refine e_istore dX8_copy_45 (by decide) rfl rfl ?_
      refine e_aload dX8_copy_47 rfl ?_
      refine e_iload_n dX8_copy_49 rfl rfl ?_
      refine e_iload_n dX8_copy_50 rfl rfl ?_
      refine e_iconst dX8_copy_51 ?_
      refine e_iload_n dX8_copy_52 rfl rfl ?_
      refine e_ishl dX8_copy_53 eb ?_
      refine e_callV (As := [zI _, zI _, zI _]) (cb := 3) dX8_copy_54 moX2_hold mvX2_hold mlX8_237 (by decide) rfl (show zK h (nS s + 5) = 3 + 1 from hCp.1) rfl (Nat.le_of_ble_eq_true rfl) ⟨by decide, by decide, by decide, by decide⟩ (c_X2_hold hl (nS s + 5) hCp.1 v t b hvz htz (by omega)) (fun E h1 q => by cases q.1) (fun v h9 q => ?_)
      obtain ⟨e1, e2⟩ := q; cases e1; rw [e2]; clear e2 h9
      refine e_iload dX8_copy_57 rfl ?_
      refine e_iret dX8_copy_59 rfl trivial (by decide) (by decide) ?_
      have hI4 := I4_copy (II_4 hI) hs0.2 (t := t) (v := v) (by omega) (by omega)
      have fr : ∀ m, m ≠ nS s + 5 → eqAt m h (sf (sf (sf h 300 (nS s + 5) v) 301 (nS s + 5) t) 302 (nS s + 5) b) := fun m hm => eqAt_tr (eqAt_tr (eqAt_sf hm) (eqAt_sf hm)) (eqAt_sf hm)
      exact QC_ok (by first | (rw [if_neg (by omega)]; done) | (rw [if_neg (by omega), if_neg (by omega)]; done) | (rw [if_neg (by omega), if_neg (by omega), if_neg (by omega)]; done) | (rw [if_neg (by omega), if_neg (by omega), if_neg (by omega), if_neg (by omega)]; done)) rfl (fun m hm => fr m (by unfold nS; omega)) (RC_ses2 hI hI4.1 hs0 copS_e (RSes_clp hI4.1 (fun f h1 h2 h3 j => copS_f h1 h2 h3) fr (RClp_cop hCp.1 (by omega) hb) (hRs s hs0)) (fun m hm _ => fr m ((nmS_no hm).1 5 (by decide))) (fun w w0 w1 => by
        rw [copS_f (by decide) (by decide) (by decide)] at w0
        exact RC_freeW hR s0 s4 w w0 w1) hR)
    · skip
      try simp only [b2_0, b2_n0] at c27
      refine e_throw (cls := "java/lang/IllegalArgumentException") (text := "a number is out of range") dX8_copy_30 dX8_copy_33 dX8_copy_34 dX8_copy_36 dX8_copy_39 (by decide +kernel) txX8_48 txI_IllegalArgumentException (by decide +kernel) (by decide +kernel) zatX8_52 rfl (by decide) (by decide) (Nat.le_of_ble_eq_true rfl) (by decide) (by decide) ?_
      first
        | exact QC_no (x := 1) (by first | (rw [if_pos (by omega)]; done) | (rw [if_neg (by omega), if_pos (by omega)]; done) | (rw [if_neg (by omega), if_neg (by omega), if_pos (by omega)]; done) | (rw [if_neg (by omega), if_neg (by omega), if_neg (by omega), if_pos (by omega)]; done)) (by decide) rfl (fun _ _ => eqAt_rf) hR
        | exact QC_no (x := 2) (by first | (rw [if_pos (by omega)]; done) | (rw [if_neg (by omega), if_pos (by omega)]; done) | (rw [if_neg (by omega), if_neg (by omega), if_pos (by omega)]; done) | (rw [if_neg (by omega), if_neg (by omega), if_neg (by omega), if_pos (by omega)]; done)) (by decide) rfl (fun _ _ => eqAt_rf) hR
set_option maxHeartbeats 4000000 in
set_option maxRecDepth 100000 in
theorem c_X8_allow {l : Launch} (hl : l.stackTraces = false) {S : S9} {h : zH} {B : Int} (hR : RC S h) (hI : II S B) (a : Int) (haz : zin a) (b : Int) (hbz : zin b) (t : Int) (htz : zin t) (v : Int) (hv : v = 0 ∨ v = 1)  : zC l MX8_allow [zR (some 2), zI a, zI b, zI t, zI v] h (QC S h (if ¬ (isS S a ∧ isS S b) then 1 else if ¬ (0 ≤ t ∧ t ≤ 2) ∨ a = b then 2 else 0) [exI, exA] (zI (S 25 ((4 * a + b) * 3 + t))) (up S 25 ((4 * a + b) * 3 + t) v)) := by
  refine zC_of hl rfl rfl (by decide) rfl rfl (Nat.le_of_ble_eq_true rfl) ?_
  have hN : IN S := hI.1.1
  have hIW : IW S := hI.1.2.1
  have hIO : IO S := hI.1.2.2.1
  have hIC : IC S := hI.1.2.2.2.1
  have hIK : IK S := hI.1.2.2.2.2
  have hB3 := hI.2.2.1
  have hbt := hI.2.2.2.2
  obtain ⟨⟨⟨p1, p2, p3, p4, p5⟩, ⟨y1, y2, y3⟩, ⟨x1, x2, x3⟩, v1, v2, v3⟩, hRs, hRc, hRf⟩ := id hR
  obtain ⟨n1, n2, n3, n4, n5⟩ := id hN
  refine e_aload_n dX8_allow_0 rfl rfl ?_
  refine e_iload_n dX8_allow_1 rfl rfl ?_
  refine e_callV (As := [zI _]) (cb := 9) dX8_allow_2 moX8_isSession mvX8_isSession mlX8_241 (by decide) rfl (show zK _ 2 = 9 + 1 from p1) rfl (Nat.le_of_ble_eq_true rfl) ⟨by decide, by decide, by decide, by decide⟩ (c_X8_isSession hl hR hN a haz) (fun E h1 q => by cases q.1) (fun v h9 q => ?_)
  obtain ⟨e1, e2⟩ := q; cases e1; rw [e2]; clear e2 h9
  refine e_if_eq (tgt := 16) dX8_allow_5 (by decide) b2_in (fun c5 => ?_) (fun c5 => ?_)
  · skip
    try simp only [b2_0, b2_n0] at c5
    refine e_throw (cls := "java/lang/IndexOutOfBoundsException") (text := "there is no such session") dX8_allow_16 dX8_allow_19 dX8_allow_20 dX8_allow_22 dX8_allow_25 (by decide +kernel) txX8_245 txI_IndexOutOfBoundsException (by decide +kernel) (by decide +kernel) zatX8_249 rfl (by decide) (by decide) (Nat.le_of_ble_eq_true rfl) (by decide) (by decide) ?_
    first
      | exact QC_no (x := 1) (by first | (rw [if_pos (by omega)]; done) | (rw [if_neg (by omega), if_pos (by omega)]; done) | (rw [if_neg (by omega), if_neg (by omega), if_pos (by omega)]; done) | (rw [if_neg (by omega), if_neg (by omega), if_neg (by omega), if_pos (by omega)]; done)) (by decide) rfl (fun _ _ => eqAt_rf) hR
      | exact QC_no (x := 2) (by first | (rw [if_pos (by omega)]; done) | (rw [if_neg (by omega), if_pos (by omega)]; done) | (rw [if_neg (by omega), if_neg (by omega), if_pos (by omega)]; done) | (rw [if_neg (by omega), if_neg (by omega), if_neg (by omega), if_pos (by omega)]; done)) (by decide) rfl (fun _ _ => eqAt_rf) hR
  · skip
    try simp only [b2_0, b2_n0] at c5
    refine e_aload_n dX8_allow_8 rfl rfl ?_
    refine e_iload_n dX8_allow_9 rfl rfl ?_
    refine e_callV (As := [zI _]) (cb := 9) dX8_allow_10 moX8_isSession mvX8_isSession mlX8_241 (by decide) rfl (show zK _ 2 = 9 + 1 from p1) rfl (Nat.le_of_ble_eq_true rfl) ⟨by decide, by decide, by decide, by decide⟩ (c_X8_isSession hl hR hN b hbz) (fun E h1 q => by cases q.1) (fun v h9 q => ?_)
    obtain ⟨e1, e2⟩ := q; cases e1; rw [e2]; clear e2 h9
    refine e_if_ne (tgt := 26) dX8_allow_13 (by decide) b2_in (fun c13 => ?_) (fun c13 => ?_)
    · skip
      try simp only [b2_0, b2_n0] at c13
      refine e_iload_n dX8_allow_26 rfl rfl ?_
      refine e_iconst dX8_allow_27 ?_
      refine e_iconst dX8_allow_28 ?_
      refine e_callS (As := [zI _, zI _, zI _]) dX8_allow_29 moX8_isWithin msX8_isWithin mlX8_116 rfl (Nat.le_of_ble_eq_true rfl) ⟨by decide, by decide, by decide, by decide⟩ (c_X8_isWithin hl t 0 2 htz (by decide) (by decide)) (fun E h1 q => by cases q.1) (fun v h9 q => ?_)
      obtain ⟨e1, e2⟩ := q; cases e1; rw [e2]; clear e2 h9
      refine e_if_eq (tgt := 40) dX8_allow_32 (by decide) b2_in (fun c32 => ?_) (fun c32 => ?_)
      · skip
        try simp only [b2_0, b2_n0] at c32
        refine e_throw (cls := "java/lang/IllegalArgumentException") (text := "there is no such kind, or both are the same") dX8_allow_40 dX8_allow_43 dX8_allow_44 dX8_allow_46 dX8_allow_49 (by decide +kernel) txX8_48 txI_IllegalArgumentException (by decide +kernel) (by decide +kernel) zatX8_52 rfl (by decide) (by decide) (Nat.le_of_ble_eq_true rfl) (by decide) (by decide) ?_
        first
          | exact QC_no (x := 1) (by first | (rw [if_pos (by omega)]; done) | (rw [if_neg (by omega), if_pos (by omega)]; done) | (rw [if_neg (by omega), if_neg (by omega), if_pos (by omega)]; done) | (rw [if_neg (by omega), if_neg (by omega), if_neg (by omega), if_pos (by omega)]; done)) (by decide) rfl (fun _ _ => eqAt_rf) hR
          | exact QC_no (x := 2) (by first | (rw [if_pos (by omega)]; done) | (rw [if_neg (by omega), if_pos (by omega)]; done) | (rw [if_neg (by omega), if_neg (by omega), if_pos (by omega)]; done) | (rw [if_neg (by omega), if_neg (by omega), if_neg (by omega), if_pos (by omega)]; done)) (by decide) rfl (fun _ _ => eqAt_rf) hR
      · skip
        try simp only [b2_0, b2_n0] at c32
        refine e_iload_n dX8_allow_35 rfl rfl ?_
        refine e_iload_n dX8_allow_36 rfl rfl ?_
        refine e_icmp_ne (tgt := 50) dX8_allow_37 (by decide) (by omega) (by omega) (fun c37 => ?_) (fun c37 => ?_)
        · skip
          refine e_iload_n dX8_allow_50 rfl rfl ?_
          refine e_iload_n dX8_allow_51 rfl rfl ?_
          refine e_iload_n dX8_allow_52 rfl rfl ?_
          refine e_callS (As := [zI _, zI _, zI _]) dX8_allow_53 moX8_rightNumber msX8_rightNumber mlX8_252 rfl (Nat.le_of_ble_eq_true rfl) ⟨by decide, by decide, by decide, by decide⟩ (c_X8_rightNumber hl a b t) (fun E h1 q => by cases q.1) (fun v h9 q => ?_)
          obtain ⟨e1, e2⟩ := q; cases e1; rw [e2]; clear e2 h9
          refine e_istore dX8_allow_56 (by decide) rfl rfl ?_
          refine e_aload_n dX8_allow_58 rfl rfl ?_
          refine e_getR dX8_allow_59 flX8_21 rfl (show zK _ 2 = 9 + 1 from p1) p4 ?_
          refine e_iload dX8_allow_62 rfl ?_
          refine e_zald dX8_allow_64 v1 (by omega) (by rw [v2]; omega) (v3 _ (by omega) (by omega)) (fun r64 => ?_)
          refine e_istore dX8_allow_65 (by decide) rfl rfl ?_
          refine e_aload_n dX8_allow_67 rfl rfl ?_
          refine e_getR dX8_allow_68 flX8_21 rfl (show zK _ 2 = 9 + 1 from p1) p4 ?_
          refine e_iload dX8_allow_71 rfl ?_
          refine e_iload dX8_allow_73 rfl ?_
          refine e_zast dX8_allow_75 v1 (by omega) (by rw [v2]; omega) hv ?_
          refine e_iload dX8_allow_76 rfl ?_
          refine e_iret dX8_allow_78 rfl (hbt 25 (by decide) _) (by decide) (by decide) ?_
          have hI4 := I4_allow (II_4 hI) (w := (4 * a + b) * 3 + t) (v := v)
          exact QC_ok (by first | (rw [if_neg (by omega)]; done) | (rw [if_neg (by omega), if_neg (by omega)]; done) | (rw [if_neg (by omega), if_neg (by omega), if_neg (by omega)]; done) | (rw [if_neg (by omega), if_neg (by omega), if_neg (by omega), if_neg (by omega)]; done)) rfl (fun m hm => eqAt_sa (by omega)) (RC_right hN hR hI4.1 (fun s hs => by
            have z := hB3.2.1 s hs.1 (by omega)
            exact ⟨z.2.2.1, z.2.2.2.1⟩))
        · skip
          refine e_throw (cls := "java/lang/IllegalArgumentException") (text := "there is no such kind, or both are the same") dX8_allow_40 dX8_allow_43 dX8_allow_44 dX8_allow_46 dX8_allow_49 (by decide +kernel) txX8_48 txI_IllegalArgumentException (by decide +kernel) (by decide +kernel) zatX8_52 rfl (by decide) (by decide) (Nat.le_of_ble_eq_true rfl) (by decide) (by decide) ?_
          first
            | exact QC_no (x := 1) (by first | (rw [if_pos (by omega)]; done) | (rw [if_neg (by omega), if_pos (by omega)]; done) | (rw [if_neg (by omega), if_neg (by omega), if_pos (by omega)]; done) | (rw [if_neg (by omega), if_neg (by omega), if_neg (by omega), if_pos (by omega)]; done)) (by decide) rfl (fun _ _ => eqAt_rf) hR
            | exact QC_no (x := 2) (by first | (rw [if_pos (by omega)]; done) | (rw [if_neg (by omega), if_pos (by omega)]; done) | (rw [if_neg (by omega), if_neg (by omega), if_pos (by omega)]; done) | (rw [if_neg (by omega), if_neg (by omega), if_neg (by omega), if_pos (by omega)]; done)) (by decide) rfl (fun _ _ => eqAt_rf) hR
    · skip
      try simp only [b2_0, b2_n0] at c13
      refine e_throw (cls := "java/lang/IndexOutOfBoundsException") (text := "there is no such session") dX8_allow_16 dX8_allow_19 dX8_allow_20 dX8_allow_22 dX8_allow_25 (by decide +kernel) txX8_245 txI_IndexOutOfBoundsException (by decide +kernel) (by decide +kernel) zatX8_249 rfl (by decide) (by decide) (Nat.le_of_ble_eq_true rfl) (by decide) (by decide) ?_
      first
        | exact QC_no (x := 1) (by first | (rw [if_pos (by omega)]; done) | (rw [if_neg (by omega), if_pos (by omega)]; done) | (rw [if_neg (by omega), if_neg (by omega), if_pos (by omega)]; done) | (rw [if_neg (by omega), if_neg (by omega), if_neg (by omega), if_pos (by omega)]; done)) (by decide) rfl (fun _ _ => eqAt_rf) hR
        | exact QC_no (x := 2) (by first | (rw [if_pos (by omega)]; done) | (rw [if_neg (by omega), if_pos (by omega)]; done) | (rw [if_neg (by omega), if_neg (by omega), if_pos (by omega)]; done) | (rw [if_neg (by omega), if_neg (by omega), if_neg (by omega), if_pos (by omega)]; done)) (by decide) rfl (fun _ _ => eqAt_rf) hR
set_option maxHeartbeats 4000000 in
set_option maxRecDepth 100000 in
theorem c_X8_bid {l : Launch} (hl : l.stackTraces = false) {S : S9} {h : zH} {B : Int} (hR : RC S h) (hI : II S B) (c : Int) (hcz : zin c) (b : Int) (hbz : zin b)  : zC l MX8_bid [zR (some 2), zI c, zI b] h (QC S h (if ¬ isC S c then 1 else if ¬ (0 ≤ b ∧ b ≤ 9) then 2 else 0) [exI, exA] (zI (S 36 c)) (up S 36 c b)) := by
  refine zC_of hl rfl rfl (by decide) rfl rfl (Nat.le_of_ble_eq_true rfl) ?_
  have hN : IN S := hI.1.1
  have hIW : IW S := hI.1.2.1
  have hIO : IO S := hI.1.2.2.1
  have hIC : IC S := hI.1.2.2.2.1
  have hIK : IK S := hI.1.2.2.2.2
  have hB3 := hI.2.2.1
  have hbt := hI.2.2.2.2
  obtain ⟨⟨⟨p1, p2, p3, p4, p5⟩, ⟨y1, y2, y3⟩, ⟨x1, x2, x3⟩, v1, v2, v3⟩, hRs, hRc, hRf⟩ := id hR
  obtain ⟨n1, n2, n3, n4, n5⟩ := id hN
  refine e_aload_n dX8_bid_0 rfl rfl ?_
  refine e_iload_n dX8_bid_1 rfl rfl ?_
  refine e_callV (As := [zI _]) (cb := 9) dX8_bid_2 moX8_clientAt mvX8_clientAt mlX8_139 (by decide) rfl (show zK _ 2 = 9 + 1 from p1) rfl (Nat.le_of_ble_eq_true rfl) ⟨by decide, by decide, by decide, by decide⟩ (c_X8_clientAt hl hR hN c hcz) (fun E h9 q => by (obtain ⟨e2, hz, e1⟩ := Qat_r q); subst e1; subst e2; exact AX_out rfl (by decide) (by decide) (QC_no (x := 1) (by first | (rw [if_pos (by omega)]; done) | (rw [if_neg (by omega), if_pos (by omega)]; done) | (rw [if_neg (by omega), if_neg (by omega), if_pos (by omega)]; done) | (rw [if_neg (by omega), if_neg (by omega), if_neg (by omega), if_pos (by omega)]; done)) (by decide) rfl (fun _ _ => eqAt_rf) hR)) (fun v h9 q => ?_)
  obtain ⟨e2, hc0, e1⟩ := Qat_l q; cases e1; rw [e2]; clear q e2 h9
  obtain ⟨hCl, hCh⟩ := hRc c hc0
  obtain ⟨r1, r2, r3, r4, r5, r6, r7, r8⟩ := id hCl
  have K3 : zK h (nC c) = 2 + 1 := r1
  refine e_astore_n dX8_bid_5 rfl (by decide) rfl rfl ?_
  refine e_iload_n dX8_bid_6 rfl rfl ?_
  refine e_iconst dX8_bid_7 ?_
  refine e_bipush dX8_bid_8 (by decide) ?_
  refine e_callS (As := [zI _, zI _, zI _]) dX8_bid_10 moX8_isWithin msX8_isWithin mlX8_116 rfl (Nat.le_of_ble_eq_true rfl) ⟨by decide, by decide, by decide, by decide⟩ (c_X8_isWithin hl b 0 9 hbz (by decide) (by decide)) (fun E h1 q => by cases q.1) (fun v h9 q => ?_)
  obtain ⟨e1, e2⟩ := q; cases e1; rw [e2]; clear e2 h9
  refine e_if_ne (tgt := 26) dX8_bid_13 (by decide) b2_in (fun c13 => ?_) (fun c13 => ?_)
  · skip
    try simp only [b2_0, b2_n0] at c13
    refine e_aload_n dX8_bid_26 rfl rfl ?_
    refine e_getI dX8_bid_27 flX8_143 rfl K3 r5 (fun r27 => ?_)
    refine e_istore dX8_bid_30 (by decide) rfl rfl ?_
    refine e_aload_n dX8_bid_32 rfl rfl ?_
    refine e_iload_n dX8_bid_33 rfl rfl ?_
    refine e_putI dX8_bid_34 flX8_143 (Or.inl rfl) trivial K3 (by omega) ?_
    refine e_iload dX8_bid_37 rfl ?_
    refine e_iret dX8_bid_39 rfl trivial (by decide) (by decide) ?_
    have hI4 := I4_bid (II_4 hI) hc0 (v := b) (by omega)
    have fr : ∀ m, m ≠ nC c → eqAt m h (sf h 203 (nC c) b) := fun m hm => eqAt_sf hm
    exact QC_ok (by first | (rw [if_neg (by omega)]; done) | (rw [if_neg (by omega), if_neg (by omega)]; done) | (rw [if_neg (by omega), if_neg (by omega), if_neg (by omega)]; done) | (rw [if_neg (by omega), if_neg (by omega), if_neg (by omega), if_neg (by omega)]; done)) rfl (fun m hm => fr m (by unfold nC; omega)) (RC_cli hI hc0 (fun f j h1 _ => by
      unfold up
      rw [if_neg (by omega)]) ⟨⟨r1, r2, r3, r4, by simp [s_ff, up], by simp [s_ff, up, r6], by simp [s_ff, up, r7], by simp [s_ff, up, r8]⟩, RCh_agf (up_f (by decide)) (fun _ _ _ => up_f (by decide)) (RCh_at (fr _ (by omega)) (fr _ (by omega)) (fr _ (by omega)) (fr _ (by omega)) hCh)⟩ (fun m hm => fr m (hm 0 (by decide))) hI4.1 hR)
  · skip
    try simp only [b2_0, b2_n0] at c13
    refine e_throw (cls := "java/lang/IllegalArgumentException") (text := "the bid is out of range") dX8_bid_16 dX8_bid_19 dX8_bid_20 dX8_bid_22 dX8_bid_25 (by decide +kernel) txX8_48 txI_IllegalArgumentException (by decide +kernel) (by decide +kernel) zatX8_52 rfl (by decide) (by decide) (Nat.le_of_ble_eq_true rfl) (by decide) (by decide) ?_
    first
      | exact QC_no (x := 1) (by first | (rw [if_pos (by omega)]; done) | (rw [if_neg (by omega), if_pos (by omega)]; done) | (rw [if_neg (by omega), if_neg (by omega), if_pos (by omega)]; done) | (rw [if_neg (by omega), if_neg (by omega), if_neg (by omega), if_pos (by omega)]; done)) (by decide) rfl (fun _ _ => eqAt_rf) hR
      | exact QC_no (x := 2) (by first | (rw [if_pos (by omega)]; done) | (rw [if_neg (by omega), if_pos (by omega)]; done) | (rw [if_neg (by omega), if_neg (by omega), if_pos (by omega)]; done) | (rw [if_neg (by omega), if_neg (by omega), if_neg (by omega), if_pos (by omega)]; done)) (by decide) rfl (fun _ _ => eqAt_rf) hR
set_option maxHeartbeats 4000000 in
set_option maxRecDepth 100000 in
theorem c_X8_move {l : Launch} (hl : l.stackTraces = false) {S : S9} {h : zH} {B : Int} (hR : RC S h) (hI : II S B) (s : Int) (hsz : zin s)  : zC l MX8_move [zR (some 2), zI s] h (QC S h (if ¬ isS S s then 1 else if S 26 s = 1 then 2 else 0) [exI, exS] (zI (b2 (0 < S 28 s))) (movgS S s)) := by
  refine zC_of hl rfl rfl (by decide) rfl rfl (Nat.le_of_ble_eq_true rfl) ?_
  have hN : IN S := hI.1.1
  have hIW : IW S := hI.1.2.1
  have hIO : IO S := hI.1.2.2.1
  have hIC : IC S := hI.1.2.2.2.1
  have hIK : IK S := hI.1.2.2.2.2
  have hB3 := hI.2.2.1
  have hbt := hI.2.2.2.2
  obtain ⟨⟨⟨p1, p2, p3, p4, p5⟩, ⟨y1, y2, y3⟩, ⟨x1, x2, x3⟩, v1, v2, v3⟩, hRs, hRc, hRf⟩ := id hR
  obtain ⟨n1, n2, n3, n4, n5⟩ := id hN
  refine e_aload_n dX8_move_0 rfl rfl ?_
  refine e_iload_n dX8_move_1 rfl rfl ?_
  refine e_callV (As := [zI _]) (cb := 9) dX8_move_2 moX8_sessionAt mvX8_sessionAt mlX8_37 (by decide) rfl (show zK _ 2 = 9 + 1 from p1) rfl (Nat.le_of_ble_eq_true rfl) ⟨by decide, by decide, by decide, by decide⟩ (c_X8_sessionAt hl hR hN s hsz) (fun E h9 q => by (obtain ⟨e2, hz, e1⟩ := Qat_r q); subst e1; subst e2; exact AX_out rfl (by decide) (by decide) (QC_no (x := 1) (by first | (rw [if_pos (by omega)]; done) | (rw [if_neg (by omega), if_pos (by omega)]; done) | (rw [if_neg (by omega), if_neg (by omega), if_pos (by omega)]; done) | (rw [if_neg (by omega), if_neg (by omega), if_neg (by omega), if_pos (by omega)]; done)) (by decide) rfl (fun _ _ => eqAt_rf) hR)) (fun v h9 q => ?_)
  obtain ⟨e2, hs0, e1⟩ := Qat_l q; cases e1; rw [e2]; clear q e2 h9
  obtain ⟨hV, ⟨ed, cp, kn, hK⟩, hC, hWn, hCp, hT, hRr, hRr0⟩ := hRs s hs0
  obtain ⟨⟨s0, s4⟩, -, -, -, hSo, hP, hWs⟩ := id hV
  obtain ⟨o1, o2, o3, o4, o5, o6, o7, o8, o9⟩ := id hSo
  have hb4 := n5 s s0 s4
  have K6 : zK h (nS s) = 6 + 1 := o1
  have b26 := hbt 26 (by decide) s
  have hb28 := (hB3.2.1 s s0 s4).1
  refine e_getR dX8_move_5 flX8_275 rfl K6 o7 ?_
  refine e_astore_n dX8_move_8 rfl (by decide) rfl rfl ?_
  refine e_aload_n dX8_move_9 rfl rfl ?_
  refine e_getI dX8_move_10 flX8_279 rfl (show zK h (nS s + 6) = 7 + 1 from hT.1.1) hT.1.2.2.2.1 (fun r10 => ?_)
  refine e_if_eq (tgt := 27) dX8_move_13 (by decide) (by omega) (fun c13 => ?_) (fun c13 => ?_)
  · skip
    try simp only [b2_0, b2_n0] at c13
    refine e_aload_n dX8_move_27 rfl rfl ?_
    refine e_callV (As := []) (cb := 7) dX8_move_28 moX6_begin mvX6_begin mlX8_286 (by decide) rfl (show zK h (nS s + 6) = 7 + 1 from hT.1.1) rfl (Nat.le_of_ble_eq_true rfl) ⟨by decide, by decide, by decide, by decide⟩ (c_X6_begin hl hT) (fun E h1 q => by cases q.1) (fun v h9 q => ?_)
    obtain ⟨e1, hT9, hf9⟩ := q; cases e1
    have hT9 : RT (movgS S s) h9 s := hT9
    have e28 : movgS S s 28 s = S 28 s := movgS_f (by decide) (by decide)
    refine e_aload_n dX8_move_31 rfl rfl ?_
    refine e_getI dX8_move_32 flX8_289 rfl (show zK h9 (nS s + 6) = 7 + 1 from hT9.1.1) (hT9.1.2.2.2.2.trans e28) (fun r32 => ?_)
    refine e_if_le (tgt := 42) dX8_move_35 (by decide) (by omega) (fun c35 => ?_) (fun c35 => ?_)
    · skip
      refine e_iconst dX8_move_42 ?_
      refine e_iret dX8_move_43 rfl (by first | exact Or.inl rfl | exact Or.inr rfl | assumption | exact b2_01) (by decide) (by decide) ?_
      have hI4 := I4_move (II_4 hI) hs0.2
      have vv : zI (b2 (0 < S 28 s)) = zI (b2 (0 < S 28 s)) := rfl
      have ho9 : RSo (movgS S s) h9 s := by
        have z := RSo_at (hf9 (nS s) (by omega) (by omega)) hSo
        unfold RSo at z ⊢
        rw [movgS_f (by decide) (by decide), movgS_f (by decide) (by decide)]
        exact z
      have hfin : RC (movgS S s) h9 := RC_ses2 hI hI4.1 hs0 movgS_e (RSes_mov hI4.1 (fun f hf j => movgS_f (by omega) (by omega)) (fun m m0 m6 m7 m8 => hf9 m m6 m8) ho9 hT9 (hRs s hs0)) (fun m hm _ => hf9 m ((nmS_no hm).1 6 (by decide)) ((nmS_no hm).1 8 (by decide))) (fun w w0 w1 => by
        rw [movgS_f (by decide) (by decide)] at w0
        exact (RC_freeW (h := h) hR s0 s4 w w0 w1).imp (fun z => (hf9 _ (by unfold nW nS; omega) (by unfold nW nS; omega)).1.trans z) (fun z => (hf9 _ (by unfold nW nS; omega) (by unfold nW nS; omega)).1.trans z)) hR
      first
        | exact QC_ok (by first | (rw [if_neg (by omega)]; done) | (rw [if_neg (by omega), if_neg (by omega)]; done) | (rw [if_neg (by omega), if_neg (by omega), if_neg (by omega)]; done) | (rw [if_neg (by omega), if_neg (by omega), if_neg (by omega), if_neg (by omega)]; done)) (by rw [b2_t (by omega)]) (fun m hm => hf9 m (by unfold nS; omega) (by unfold nS; omega)) hfin
        | exact QC_ok (by first | (rw [if_neg (by omega)]; done) | (rw [if_neg (by omega), if_neg (by omega)]; done) | (rw [if_neg (by omega), if_neg (by omega), if_neg (by omega)]; done) | (rw [if_neg (by omega), if_neg (by omega), if_neg (by omega), if_neg (by omega)]; done)) (by rw [b2_f (by omega)]) (fun m hm => hf9 m (by unfold nS; omega) (by unfold nS; omega)) hfin
    · skip
      refine e_iconst dX8_move_38 ?_
      refine e_goto (tgt := 43) dX8_move_39 (by decide) ?_
      refine e_iret dX8_move_43 rfl (by first | exact Or.inl rfl | exact Or.inr rfl | assumption | exact b2_01) (by decide) (by decide) ?_
      have hI4 := I4_move (II_4 hI) hs0.2
      have vv : zI (b2 (0 < S 28 s)) = zI (b2 (0 < S 28 s)) := rfl
      have ho9 : RSo (movgS S s) h9 s := by
        have z := RSo_at (hf9 (nS s) (by omega) (by omega)) hSo
        unfold RSo at z ⊢
        rw [movgS_f (by decide) (by decide), movgS_f (by decide) (by decide)]
        exact z
      have hfin : RC (movgS S s) h9 := RC_ses2 hI hI4.1 hs0 movgS_e (RSes_mov hI4.1 (fun f hf j => movgS_f (by omega) (by omega)) (fun m m0 m6 m7 m8 => hf9 m m6 m8) ho9 hT9 (hRs s hs0)) (fun m hm _ => hf9 m ((nmS_no hm).1 6 (by decide)) ((nmS_no hm).1 8 (by decide))) (fun w w0 w1 => by
        rw [movgS_f (by decide) (by decide)] at w0
        exact (RC_freeW (h := h) hR s0 s4 w w0 w1).imp (fun z => (hf9 _ (by unfold nW nS; omega) (by unfold nW nS; omega)).1.trans z) (fun z => (hf9 _ (by unfold nW nS; omega) (by unfold nW nS; omega)).1.trans z)) hR
      first
        | exact QC_ok (by first | (rw [if_neg (by omega)]; done) | (rw [if_neg (by omega), if_neg (by omega)]; done) | (rw [if_neg (by omega), if_neg (by omega), if_neg (by omega)]; done) | (rw [if_neg (by omega), if_neg (by omega), if_neg (by omega), if_neg (by omega)]; done)) (by rw [b2_t (by omega)]) (fun m hm => hf9 m (by unfold nS; omega) (by unfold nS; omega)) hfin
        | exact QC_ok (by first | (rw [if_neg (by omega)]; done) | (rw [if_neg (by omega), if_neg (by omega)]; done) | (rw [if_neg (by omega), if_neg (by omega), if_neg (by omega)]; done) | (rw [if_neg (by omega), if_neg (by omega), if_neg (by omega), if_neg (by omega)]; done)) (by rw [b2_f (by omega)]) (fun m hm => hf9 m (by unfold nS; omega) (by unfold nS; omega)) hfin
  · skip
    try simp only [b2_0, b2_n0] at c13
    refine e_throwW (cls := "java/lang/IllegalStateException") (text := "the session is moving") dX8_move_16 dX8_move_19 dX8_move_20 dX8_move_23 dX8_move_26 (by decide +kernel) txX8_30 txI_IllegalStateException (by decide +kernel) (by decide +kernel) zatX8_34 rfl (by decide) (by decide) (Nat.le_of_ble_eq_true rfl) (by decide) (by decide) ?_
    first
      | exact QC_no (x := 1) (by first | (rw [if_pos (by omega)]; done) | (rw [if_neg (by omega), if_pos (by omega)]; done) | (rw [if_neg (by omega), if_neg (by omega), if_pos (by omega)]; done) | (rw [if_neg (by omega), if_neg (by omega), if_neg (by omega), if_pos (by omega)]; done)) (by decide) rfl (fun _ _ => eqAt_rf) hR
      | exact QC_no (x := 2) (by first | (rw [if_pos (by omega)]; done) | (rw [if_neg (by omega), if_pos (by omega)]; done) | (rw [if_neg (by omega), if_neg (by omega), if_pos (by omega)]; done) | (rw [if_neg (by omega), if_neg (by omega), if_neg (by omega), if_pos (by omega)]; done)) (by decide) rfl (fun _ _ => eqAt_rf) hR
