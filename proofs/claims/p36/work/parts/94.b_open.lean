set_option maxHeartbeats 4000000 in
set_option maxRecDepth 100000 in
theorem c_X8_openSession {l : Launch} (hl : l.stackTraces = false) {S : S9} {h : zH} {B : Int} (hR : RC S h) (hI : II S B)  : zC l MX8_openSession [zR (some 2)] h (QC S h (if S 1 0 = 4 then 1 else 0) [exS] (zI (S 1 0)) (up S 1 0 (S 1 0 + 1))) := by
  refine zC_of hl rfl rfl (by decide) rfl rfl (Nat.le_of_ble_eq_true rfl) ?_
  have hN : IN S := hI.1.1
  have hIW : IW S := hI.1.2.1
  have hIO : IO S := hI.1.2.2.1
  have hIC : IC S := hI.1.2.2.2.1
  have hIK : IK S := hI.1.2.2.2.2
  have hB3 := hI.2.2.1
  have hbt := hI.2.2.2.2
  obtain ⟨⟨⟨p1, p2, p3, p4, p5⟩, ⟨y1, y2, y3⟩, ⟨x1, x2, x3⟩, v1, v2, v3⟩, hRs, hRc, hRf⟩ := id hR
  obtain ⟨n1, n2, n3, n4, n5⟩ := id hN
  refine e_iconst dX8_openSession_0 ?_
  refine e_istore_n dX8_openSession_1 rfl (by decide) rfl rfl ?_
  have lp2 : ∀ (d : Nat) (i : Int), (4 - i).toNat < d → 0 ≤ i → i ≤ S 1 0 → AW l MX8_openSession (QC S h (if S 1 0 = 4 then 1 else 0) [exS] (zI (S 1 0)) (up S 1 0 (S 1 0 + 1))) 0 0 2 [zR (some 2), zI i] [] h := by
    intro d
    induction d with
    | zero => intro i hd i0 i1; exact absurd hd (by omega)
    | succ d ih =>
      have ih2 := ih
      intro i hd i0 i1
      refine e_iload_n dX8_openSession_2 rfl rfl ?_
      refine e_iconst dX8_openSession_3 ?_
      refine e_icmp_ge (tgt := 37) dX8_openSession_4 (by decide) (by omega) (by omega) (fun c4 => ?_) (fun c4 => ?_)
      · skip
        refine e_throw (cls := "java/lang/IllegalStateException") (text := "there are 4 sessions") dX8_openSession_37 dX8_openSession_40 dX8_openSession_41 dX8_openSession_43 dX8_openSession_46 (by decide +kernel) txX8_30 txI_IllegalStateException (by decide +kernel) (by decide +kernel) zatX8_34 rfl (by decide) (by decide) (Nat.le_of_ble_eq_true rfl) (by decide) (by decide) ?_
        first
          | exact QC_no (x := 1) (by first | (rw [if_pos (by omega)]; done) | (rw [if_neg (by omega), if_pos (by omega)]; done) | (rw [if_neg (by omega), if_neg (by omega), if_pos (by omega)]; done) | (rw [if_neg (by omega), if_neg (by omega), if_neg (by omega), if_pos (by omega)]; done)) (by decide) rfl (fun _ _ => eqAt_rf) hR
      · skip
        refine e_aload_n dX8_openSession_7 rfl rfl ?_
        refine e_getR dX8_openSession_8 flX8_11 rfl (show zK _ 2 = 9 + 1 from p1) p2 ?_
        refine e_iload_n dX8_openSession_11 rfl rfl ?_
        refine e_aald dX8_openSession_12 (t := 5) y1 (by decide) (by decide) i0 (by rw [y2]; omega) (y3 i i0 (by omega)) ?_
        refine e_ifnonnull (tgt := 31) dX8_openSession_13 (by decide) (fun r13 c13 => ?_) (fun c13 => ?_)
        · skip
          have z9 := (ses_some c13).1
          refine e_iinc dX8_openSession_31 (by decide) rfl rfl rfl rfl ?_
          refine e_goto (tgt := 2) dX8_openSession_34 (by decide) ?_
          exact ih2 _ (by omega) (by omega) (by omega)
        · skip
          have z9 := ses_none2 c13
          have hi9 : i = S 1 0 := by omega
          subst hi9
          have hI4 := I4_openSession (II_4 hI) (by omega)
          have hfr : ∀ j, j ≤ 18 → zK h (nS (S 1 0) + j) = 0 := fun j hj => hRf.1 (S 1 0) j (Int.le_refl _) (by omega) n1 hj
          refine e_aload_n dX8_openSession_16 rfl rfl ?_
          refine e_getR dX8_openSession_17 flX8_11 rfl (show zK _ 2 = 9 + 1 from p1) p2 ?_
          refine e_iload_n dX8_openSession_20 rfl rfl ?_
          refine e_new (ci := 6) (nS (S 1 0)) dX8_openSession_21 (by decide) clX8_9 tn_X5.1 tn_X5.2 (by unfold nS; omega) (hfr 0 (by decide)) (by decide) (by decide) ?_
          refine e_dup dX8_openSession_24 rfl ?_
          refine e_callI (As := []) dX8_openSession_25 moX5_init miX5_init rfl rfl mlX8_29 rfl (Nat.le_of_ble_eq_true rfl) ⟨by decide, by decide, by decide, by decide⟩ (c_X5_init hl (s := S 1 0) (if_pos rfl) ((if_neg (by omega)).trans (hfr 1 (by decide))) ((if_neg (by omega)).trans (hfr 2 (by decide))) ((if_neg (by omega)).trans (hfr 3 (by decide))) ((if_neg (by omega)).trans (hfr 4 (by decide))) ((if_neg (by omega)).trans (hfr 5 (by decide))) ((if_neg (by omega)).trans (hfr 6 (by decide))) ((if_neg (by omega)).trans (hfr 7 (by decide))) ((if_neg (by omega)).trans (hfr 8 (by decide))) (if_pos rfl) (if_pos rfl) (if_pos rfl)) (fun E h1 q => by cases q.1) (fun v h1 q => ?_)
          obtain ⟨e1, h0S, hf8⟩ := q; cases e1
          rename zH => h8
          have fr8 : ∀ m, (∀ j, j ≤ 8 → m ≠ nS (S 1 0) + j) → eqAt m h h8 := fun m hm => eqAt_tr (eqAt_nw (hm 0 (by decide))) (hf8 m hm)
          have f3 := fr8 3 (fun j _ => by unfold nS; omega)
          refine e_aast (t := 5) dX8_openSession_28 (f3.1.trans y1) n1 (by rw [f3.2.1, y2]; omega) (show zK h8 (nS (S 1 0)) = 6 + 1 from h0S.1.1) (Or.inr (Or.inl ⟨rfl, rfl⟩)) ?_
          refine e_iload_n dX8_openSession_29 rfl rfl ?_
          refine e_iret dX8_openSession_30 rfl trivial (by decide) (by decide) ?_
          exact QC_ok (by first | (rw [if_neg (by omega)]; done) | (rw [if_neg (by omega), if_neg (by omega)]; done) | (rw [if_neg (by omega), if_neg (by omega), if_neg (by omega)]; done) | (rw [if_neg (by omega), if_neg (by omega), if_neg (by omega), if_neg (by omega)]; done)) rfl (fun m hm => eqAt_tr (fr8 m (fun j _ => by unfold nS; omega)) (eqAt_sq (by omega))) (RC_openSession hI (by omega) hI4.1 h0S fr8 hR)
  exact lp2 5 0 (by decide) (by decide) (by omega)
set_option maxHeartbeats 4000000 in
set_option maxRecDepth 100000 in
theorem c_X8_join {l : Launch} (hl : l.stackTraces = false) {S : S9} {h : zH} {B : Int} (hR : RC S h) (hI : II S B) (s : Int) (hsz : zin s) (b : Int) (hbz : zin b)  : zC l MX8_join [zR (some 2), zI s, zI b] h (QC S h (if ¬ isS S s then 1 else if ¬ (0 ≤ b ∧ b ≤ 9) then 2 else if S 2 0 = 6 then 3 else 0) [exI, exA, exS] (zI (S 2 0)) (joinS S s b)) := by
  refine zC_of hl rfl rfl (by decide) rfl rfl (Nat.le_of_ble_eq_true rfl) ?_
  have hN : IN S := hI.1.1
  have hIW : IW S := hI.1.2.1
  have hIO : IO S := hI.1.2.2.1
  have hIC : IC S := hI.1.2.2.2.1
  have hIK : IK S := hI.1.2.2.2.2
  have hB3 := hI.2.2.1
  have hbt := hI.2.2.2.2
  obtain ⟨⟨⟨p1, p2, p3, p4, p5⟩, ⟨y1, y2, y3⟩, ⟨x1, x2, x3⟩, v1, v2, v3⟩, hRs, hRc, hRf⟩ := id hR
  obtain ⟨n1, n2, n3, n4, n5⟩ := id hN
  refine e_aload_n dX8_join_0 rfl rfl ?_
  refine e_iload_n dX8_join_1 rfl rfl ?_
  refine e_callV (As := [zI _]) (cb := 9) dX8_join_2 moX8_sessionAt mvX8_sessionAt mlX8_37 (by decide) rfl (show zK _ 2 = 9 + 1 from p1) rfl (Nat.le_of_ble_eq_true rfl) ⟨by decide, by decide, by decide, by decide⟩ (c_X8_sessionAt hl hR hN s hsz) (fun E h9 q => by (obtain ⟨e2, hz, e1⟩ := Qat_r q); subst e1; subst e2; exact AX_out rfl (by decide) (by decide) (QC_no (x := 1) (by first | (rw [if_pos (by omega)]; done) | (rw [if_neg (by omega), if_pos (by omega)]; done) | (rw [if_neg (by omega), if_neg (by omega), if_pos (by omega)]; done) | (rw [if_neg (by omega), if_neg (by omega), if_neg (by omega), if_pos (by omega)]; done)) (by decide) rfl (fun _ _ => eqAt_rf) hR)) (fun v h9 q => ?_)
  obtain ⟨e2, hs0, e1⟩ := Qat_l q; cases e1; rw [e2]; clear q e2 h9
  obtain ⟨hV, ⟨ed, cp, kn, hK⟩, hC, hWn, hCp, hT, hRr, hRr0⟩ := hRs s hs0
  obtain ⟨⟨s0, s4⟩, -, -, -, hSo, hP, hWs⟩ := id hV
  obtain ⟨o1, o2, o3, o4, o5, o6, o7, o8, o9⟩ := id hSo
  have hb4 := n5 s s0 s4
  have K6 : zK h (nS s) = 6 + 1 := o1
  refine e_astore_n dX8_join_5 rfl (by decide) rfl rfl ?_
  refine e_iload_n dX8_join_6 rfl rfl ?_
  refine e_iconst dX8_join_7 ?_
  refine e_bipush dX8_join_8 (by decide) ?_
  refine e_callS (As := [zI _, zI _, zI _]) dX8_join_10 moX8_isWithin msX8_isWithin mlX8_116 rfl (Nat.le_of_ble_eq_true rfl) ⟨by decide, by decide, by decide, by decide⟩ (c_X8_isWithin hl b 0 9 hbz (by decide) (by decide)) (fun E h1 q => by cases q.1) (fun v h9 q => ?_)
  obtain ⟨e1, e2⟩ := q; cases e1; rw [e2]; clear e2 h9
  refine e_if_ne (tgt := 26) dX8_join_13 (by decide) b2_in (fun c13 => ?_) (fun c13 => ?_)
  · skip
    try simp only [b2_0, b2_n0] at c13
    refine e_iconst dX8_join_26 ?_
    refine e_istore dX8_join_27 (by decide) rfl rfl ?_
    have lp29 : ∀ (d : Nat) (i : Int), (6 - i).toNat < d → 0 ≤ i → i ≤ S 2 0 → AW l MX8_join (QC S h (if ¬ isS S s then 1 else if ¬ (0 ≤ b ∧ b ≤ 9) then 2 else if S 2 0 = 6 then 3 else 0) [exI, exA, exS] (zI (S 2 0)) (joinS S s b)) (0 + (zMr MX8_sessionAt).cells + (zMr MX8_isWithin).cells) (0 + (zMr MX8_sessionAt).slots + (zMr MX8_isWithin).slots) 29 [zR (some 2), zI s, zI b, zR (some (nS s)), zI i] [] h := by
      intro d
      induction d with
      | zero => intro i hd i0 i1; exact absurd hd (by omega)
      | succ d ih =>
        have ih29 := ih
        intro i hd i0 i1
        refine e_iload dX8_join_29 rfl ?_
        refine e_bipush dX8_join_31 (by decide) ?_
        refine e_icmp_ge (tgt := 71) dX8_join_33 (by decide) (by omega) (by omega) (fun c33 => ?_) (fun c33 => ?_)
        · skip
          refine e_throw (cls := "java/lang/IllegalStateException") (text := "there are 6 clients") dX8_join_71 dX8_join_74 dX8_join_75 dX8_join_77 dX8_join_80 (by decide +kernel) txX8_30 txI_IllegalStateException (by decide +kernel) (by decide +kernel) zatX8_34 rfl (by decide) (by decide) (Nat.le_of_ble_eq_true rfl) (by decide) (by decide) ?_
          first
            | exact QC_no (x := 1) (by first | (rw [if_pos (by omega)]; done) | (rw [if_neg (by omega), if_pos (by omega)]; done) | (rw [if_neg (by omega), if_neg (by omega), if_pos (by omega)]; done) | (rw [if_neg (by omega), if_neg (by omega), if_neg (by omega), if_pos (by omega)]; done)) (by decide) rfl (fun _ _ => eqAt_rf) hR
            | exact QC_no (x := 2) (by first | (rw [if_pos (by omega)]; done) | (rw [if_neg (by omega), if_pos (by omega)]; done) | (rw [if_neg (by omega), if_neg (by omega), if_pos (by omega)]; done) | (rw [if_neg (by omega), if_neg (by omega), if_neg (by omega), if_pos (by omega)]; done)) (by decide) rfl (fun _ _ => eqAt_rf) hR
            | exact QC_no (x := 3) (by first | (rw [if_pos (by omega)]; done) | (rw [if_neg (by omega), if_pos (by omega)]; done) | (rw [if_neg (by omega), if_neg (by omega), if_pos (by omega)]; done) | (rw [if_neg (by omega), if_neg (by omega), if_neg (by omega), if_pos (by omega)]; done)) (by decide) rfl (fun _ _ => eqAt_rf) hR
        · skip
          refine e_aload_n dX8_join_36 rfl rfl ?_
          refine e_getR dX8_join_37 flX8_17 rfl (show zK _ 2 = 9 + 1 from p1) p3 ?_
          refine e_iload dX8_join_40 rfl ?_
          refine e_aald dX8_join_42 (t := 4) x1 (by decide) (by decide) i0 (by rw [x2]; omega) (x3 i i0 (by omega)) ?_
          refine e_ifnonnull (tgt := 65) dX8_join_43 (by decide) (fun r43 c43 => ?_) (fun c43 => ?_)
          · skip
            have z9 := (ses_some c43).1
            refine e_iinc dX8_join_65 (by decide) rfl rfl rfl rfl ?_
            refine e_goto (tgt := 29) dX8_join_68 (by decide) ?_
            exact ih29 _ (by omega) (by omega) (by omega)
          · skip
            have z9 := ses_none2 c43
            have hi9 : i = S 2 0 := by omega
            subst hi9
            have hI4 := I4_join (II_4 hI) hs0 (by omega) (b := b) (by omega)
            have hfr : ∀ k, k ≤ 4 → zK h (nC (S 2 0) + k) = 0 := fun k hk => hRf.2.2 (S 2 0) k (Int.le_refl _) (by omega) n3 hk
            have zc := hI.2.2.2.1.2.2.2.1 (S 2 0) (Int.le_refl _) (by omega)
            have nsc : nS s ≠ nC (S 2 0) ∧ nS s ≠ nC (S 2 0) + 1 := by unfold nS nC; omega
            have hcon : zC l MX1_init [zR (some (nC (S 2 0))), zR (some (nS s)), zI b] (nw h (nC (S 2 0)) (2 + 1) 0) (fun o h' => o = .inl none ∧ RCl (joinS S s b) h' (S 2 0) ∧ RCh (joinS S s b) h' (S 2 0) ∧ ∀ m, m ≠ nC (S 2 0) → m ≠ nC (S 2 0) + 1 → m ≠ nC (S 2 0) + 2 → m ≠ nC (S 2 0) + 3 → m ≠ nC (S 2 0) + 4 → eqAt m (nw h (nC (S 2 0)) (2 + 1) 0) h') := by
              have z := c_X1_init hl (S := joinS S s b) (h := nw h (nC (S 2 0)) (2 + 1) 0) (c := S 2 0) (b := b) hbz (if_pos rfl) ((if_neg (by omega)).trans (hfr 1 (by decide))) ((if_neg (by omega)).trans (hfr 2 (by decide))) ((if_neg (by omega)).trans (hfr 3 (by decide))) ((if_neg (by omega)).trans (hfr 4 (by decide))) (by rw [joinS_35]; exact ⟨(if_neg nsc.1).trans o1, (if_neg nsc.1).trans o5⟩) (by rw [joinS_35]; exact nsc.1) (by rw [joinS_35]; exact nsc.2) (by omega) (if_pos rfl) (if_pos rfl) (if_pos rfl) joinS_36 ((joinS_f (by decide)).trans zc.1) ((joinS_f (by decide)).trans zc.2.1) ((joinS_f (by decide)).trans zc.2.2.1) (fun q q0 q1 => (joinS_f (by decide)).trans (zc.2.2.2 _ (by omega) (by omega)))
              rw [joinS_35] at z
              exact z
            refine e_aload_n dX8_join_46 rfl rfl ?_
            refine e_getR dX8_join_47 flX8_17 rfl (show zK _ 2 = 9 + 1 from p1) p3 ?_
            refine e_iload dX8_join_50 rfl ?_
            refine e_new (ci := 2) (nC (S 2 0)) dX8_join_52 (by decide) clX8_15 tn_X1.1 tn_X1.2 (by unfold nC; omega) (hfr 0 (by decide)) (by decide) (by decide) ?_
            refine e_dup dX8_join_55 rfl ?_
            refine e_aload_n dX8_join_56 rfl rfl ?_
            refine e_iload_n dX8_join_57 rfl rfl ?_
            refine e_callI (As := [zR _, zI _]) dX8_join_58 moX1_init miX1_init rfl rfl mlX8_134 rfl (Nat.le_of_ble_eq_true rfl) ⟨by decide, by decide, by decide, by decide⟩ hcon (fun E h1 q => by cases q.1) (fun v h1 q => ?_)
            obtain ⟨e1, g1, g2, hf8⟩ := q; cases e1
            rename zH => h8
            have fr8 : ∀ m, (∀ k, k ≤ 4 → m ≠ nC (S 2 0) + k) → eqAt m h h8 := fun m hm => eqAt_tr (eqAt_nw (hm 0 (by decide))) (hf8 m (hm 0 (by decide)) (hm 1 (by decide)) (hm 2 (by decide)) (hm 3 (by decide)) (hm 4 (by decide)))
            have f4 := fr8 4 (fun j _ => by unfold nC; omega)
            refine e_aast (t := 4) dX8_join_61 (f4.1.trans x1) n3 (by rw [f4.2.1, x2]; omega) (show zK h8 (nC (S 2 0)) = 2 + 1 from g1.1) (Or.inl ⟨rfl, rfl⟩) ?_
            refine e_iload dX8_join_62 rfl ?_
            refine e_iret dX8_join_64 rfl trivial (by decide) (by decide) ?_
            exact QC_ok (by first | (rw [if_neg (by omega)]; done) | (rw [if_neg (by omega), if_neg (by omega)]; done) | (rw [if_neg (by omega), if_neg (by omega), if_neg (by omega)]; done) | (rw [if_neg (by omega), if_neg (by omega), if_neg (by omega), if_neg (by omega)]; done)) rfl (fun m hm => eqAt_tr (fr8 m (fun j _ => by unfold nC; omega)) (eqAt_sq (by omega))) (RC_join hI hs0 (by omega) hI4.1 g1 g2 fr8 hR)
    exact lp29 7 0 (by decide) (by decide) (by omega)
  · skip
    try simp only [b2_0, b2_n0] at c13
    refine e_throw (cls := "java/lang/IllegalArgumentException") (text := "the bid is out of range") dX8_join_16 dX8_join_19 dX8_join_20 dX8_join_22 dX8_join_25 (by decide +kernel) txX8_48 txI_IllegalArgumentException (by decide +kernel) (by decide +kernel) zatX8_52 rfl (by decide) (by decide) (Nat.le_of_ble_eq_true rfl) (by decide) (by decide) ?_
    first
      | exact QC_no (x := 1) (by first | (rw [if_pos (by omega)]; done) | (rw [if_neg (by omega), if_pos (by omega)]; done) | (rw [if_neg (by omega), if_neg (by omega), if_pos (by omega)]; done) | (rw [if_neg (by omega), if_neg (by omega), if_neg (by omega), if_pos (by omega)]; done)) (by decide) rfl (fun _ _ => eqAt_rf) hR
      | exact QC_no (x := 2) (by first | (rw [if_pos (by omega)]; done) | (rw [if_neg (by omega), if_pos (by omega)]; done) | (rw [if_neg (by omega), if_neg (by omega), if_pos (by omega)]; done) | (rw [if_neg (by omega), if_neg (by omega), if_neg (by omega), if_pos (by omega)]; done)) (by decide) rfl (fun _ _ => eqAt_rf) hR
      | exact QC_no (x := 3) (by first | (rw [if_pos (by omega)]; done) | (rw [if_neg (by omega), if_pos (by omega)]; done) | (rw [if_neg (by omega), if_neg (by omega), if_pos (by omega)]; done) | (rw [if_neg (by omega), if_neg (by omega), if_neg (by omega), if_pos (by omega)]; done)) (by decide) rfl (fun _ _ => eqAt_rf) hR
set_option maxHeartbeats 4000000 in
set_option maxRecDepth 100000 in
theorem c_X8_openWindow {l : Launch} (hl : l.stackTraces = false) {S : S9} {h : zH} {B : Int} (hR : RC S h) (hI : II S B) (s : Int) (hsz : zin s) (x : Int) (hxz : zin x) (y : Int) (hyz : zin y) (a : Int) (haz : zin a) (b : Int) (hbz : zin b)  : zC l MX8_openWindow [zR (some 2), zI s, zI x, zI y, zI a, zI b] h (QC S h (if ¬ isS S s then 1 else if ¬ ((-5 ≤ x ∧ x ≤ 11) ∧ (-5 ≤ y ∧ y ≤ 7) ∧ (1 ≤ a ∧ a ≤ 12) ∧ (1 ≤ b ∧ b ≤ 8)) then 2 else if S 4 s = 6 then 3 else 0) [exI, exA, exS] (zI (S 4 s)) (opW S s x y a b)) := by
  refine zC_of hl rfl rfl (by decide) rfl rfl (Nat.le_of_ble_eq_true rfl) ?_
  have hN : IN S := hI.1.1
  have hIW : IW S := hI.1.2.1
  have hIO : IO S := hI.1.2.2.1
  have hIC : IC S := hI.1.2.2.2.1
  have hIK : IK S := hI.1.2.2.2.2
  have hB3 := hI.2.2.1
  have hbt := hI.2.2.2.2
  obtain ⟨⟨⟨p1, p2, p3, p4, p5⟩, ⟨y1, y2, y3⟩, ⟨x1, x2, x3⟩, v1, v2, v3⟩, hRs, hRc, hRf⟩ := id hR
  obtain ⟨n1, n2, n3, n4, n5⟩ := id hN
  refine e_aload_n dX8_openWindow_0 rfl rfl ?_
  refine e_iload_n dX8_openWindow_1 rfl rfl ?_
  refine e_callV (As := [zI _]) (cb := 9) dX8_openWindow_2 moX8_sessionAt mvX8_sessionAt mlX8_37 (by decide) rfl (show zK _ 2 = 9 + 1 from p1) rfl (Nat.le_of_ble_eq_true rfl) ⟨by decide, by decide, by decide, by decide⟩ (c_X8_sessionAt hl hR hN s hsz) (fun E h9 q => by (obtain ⟨e2, hz, e1⟩ := Qat_r q); subst e1; subst e2; exact AX_out rfl (by decide) (by decide) (QC_no (x := 1) (by first | (rw [if_pos (by omega)]; done) | (rw [if_neg (by omega), if_pos (by omega)]; done) | (rw [if_neg (by omega), if_neg (by omega), if_pos (by omega)]; done) | (rw [if_neg (by omega), if_neg (by omega), if_neg (by omega), if_pos (by omega)]; done)) (by decide) rfl (fun _ _ => eqAt_rf) hR)) (fun v h9 q => ?_)
  obtain ⟨e2, hs0, e1⟩ := Qat_l q; cases e1; rw [e2]; clear q e2 h9
  obtain ⟨hV, ⟨ed, cp, kn, hK⟩, hC, hWn, hCp, hT, hRr, hRr0⟩ := hRs s hs0
  obtain ⟨⟨s0, s4⟩, -, -, -, hSo, hP, hWs⟩ := id hV
  obtain ⟨o1, o2, o3, o4, o5, o6, o7, o8, o9⟩ := id hSo
  have hb4 := n5 s s0 s4
  have K6 : zK h (nS s) = 6 + 1 := o1
  refine e_astore dX8_openWindow_5 (by decide) rfl rfl ?_
  refine e_iload_n dX8_openWindow_7 rfl rfl ?_
  refine e_iload_n dX8_openWindow_8 rfl rfl ?_
  refine e_callS (As := [zI _, zI _]) dX8_openWindow_9 moX8_isWindowPlace msX8_isWindowPlace mlX8_41 rfl (Nat.le_of_ble_eq_true rfl) ⟨by decide, by decide, by decide, by decide⟩ (c_X8_isWindowPlace hl x y hxz hyz) (fun E h1 q => by cases q.1) (fun v h9 q => ?_)
  obtain ⟨e1, e2⟩ := q; cases e1; rw [e2]; clear e2 h9
  refine e_if_eq (tgt := 25) dX8_openWindow_12 (by decide) b2_in (fun c12 => ?_) (fun c12 => ?_)
  · skip
    try simp only [b2_0, b2_n0] at c12
    refine e_throw (cls := "java/lang/IllegalArgumentException") (text := "a number is out of range") dX8_openWindow_25 dX8_openWindow_28 dX8_openWindow_29 dX8_openWindow_31 dX8_openWindow_34 (by decide +kernel) txX8_48 txI_IllegalArgumentException (by decide +kernel) (by decide +kernel) zatX8_52 rfl (by decide) (by decide) (Nat.le_of_ble_eq_true rfl) (by decide) (by decide) ?_
    first
      | exact QC_no (x := 1) (by first | (rw [if_pos (by omega)]; done) | (rw [if_neg (by omega), if_pos (by omega)]; done) | (rw [if_neg (by omega), if_neg (by omega), if_pos (by omega)]; done) | (rw [if_neg (by omega), if_neg (by omega), if_neg (by omega), if_pos (by omega)]; done)) (by decide) rfl (fun _ _ => eqAt_rf) hR
      | exact QC_no (x := 2) (by first | (rw [if_pos (by omega)]; done) | (rw [if_neg (by omega), if_pos (by omega)]; done) | (rw [if_neg (by omega), if_neg (by omega), if_pos (by omega)]; done) | (rw [if_neg (by omega), if_neg (by omega), if_neg (by omega), if_pos (by omega)]; done)) (by decide) rfl (fun _ _ => eqAt_rf) hR
      | exact QC_no (x := 3) (by first | (rw [if_pos (by omega)]; done) | (rw [if_neg (by omega), if_pos (by omega)]; done) | (rw [if_neg (by omega), if_neg (by omega), if_pos (by omega)]; done) | (rw [if_neg (by omega), if_neg (by omega), if_neg (by omega), if_pos (by omega)]; done)) (by decide) rfl (fun _ _ => eqAt_rf) hR
  · skip
    try simp only [b2_0, b2_n0] at c12
    refine e_iload dX8_openWindow_15 rfl ?_
    refine e_iload dX8_openWindow_17 rfl ?_
    refine e_callS (As := [zI _, zI _]) dX8_openWindow_19 moX8_isSize msX8_isSize mlX8_45 rfl (Nat.le_of_ble_eq_true rfl) ⟨by decide, by decide, by decide, by decide⟩ (c_X8_isSize hl a b haz hbz) (fun E h1 q => by cases q.1) (fun v h9 q => ?_)
    obtain ⟨e1, e2⟩ := q; cases e1; rw [e2]; clear e2 h9
    refine e_if_ne (tgt := 35) dX8_openWindow_22 (by decide) b2_in (fun c22 => ?_) (fun c22 => ?_)
    · skip
      try simp only [b2_0, b2_n0] at c22
      refine e_aload dX8_openWindow_35 rfl ?_
      refine e_getI dX8_openWindow_37 flX8_53 rfl K6 o9 (fun r37 => ?_)
      refine e_bipush dX8_openWindow_40 (by decide) ?_
      refine e_icmp_lt (tgt := 55) dX8_openWindow_42 (by decide) (by omega) (by omega) (fun c42 => ?_) (fun c42 => ?_)
      · skip
        refine e_aload dX8_openWindow_55 rfl ?_
        have hW6 : S 4 s < 6 := by omega
        have hI4 := I4_openWindow (II_4 hI) s0 hs0.2 hW6 (x := x) (y := y) (a := a) (b := b) (by omega) (by omega) (by omega) (by omega)
        have hfw := hRf.2.1 s (6 * s + S 4 s) s0 s4 (Int.le_refl _) (by omega)
        have zw := hI.2.2.2.1.2.2.1 s (6 * s + S 4 s) s0 s4 (Int.le_refl _) (by omega)
        have iA := area_le (W := a) (H := b) (by omega) (by omega) (by omega) (by omega)
        have ef : ∀ f, (f ≠ 4 ∧ f ≠ 5 ∧ f ≠ 6 ∧ f ≠ 7 ∧ f ≠ 8 ∧ f ≠ 10 ∧ f ≠ 11 ∧ f ≠ 15 ∧ f ≠ 16) → ∀ j, opW S s x y a b f j = S f j := fun f hf j => opW_f hf
        have e5 : opW S s x y a b 5 (6 * s + S 4 s) = x := by rw [opW_g (by decide)]; simp
        have e6 : opW S s x y a b 6 (6 * s + S 4 s) = y := by rw [opW_g (by decide)]; simp
        have e7 : opW S s x y a b 7 (6 * s + S 4 s) = a := by rw [opW_g (by decide)]; simp
        have e8 : opW S s x y a b 8 (6 * s + S 4 s) = b := by rw [opW_g (by decide)]; simp
        have e10 : opW S s x y a b 10 (6 * s + S 4 s) = 1 := by rw [opW_g (by decide)]; simp
        have e11 : opW S s x y a b 11 (6 * s + S 4 s) = 1 := by rw [opW_g (by decide)]; simp
        have hIw : IW1 (opW S s x y a b) (6 * s + S 4 s) := hI4.1.2.1 s (6 * s + S 4 s) ⟨s0, s4, by omega, by rw [opW_g (by decide)]; simp; omega⟩
        have hcon : zC l MX7_init [zR (some (nW (6 * s + S 4 s))), zI x, zI y, zI a, zI b] (nw h (nW (6 * s + S 4 s)) (8 + 1) 0) (fun o h' => o = .inl none ∧ RW (opW S s x y a b) h' (6 * s + S 4 s) ∧ ∀ m, m ≠ nW (6 * s + S 4 s) → m ≠ nW (6 * s + S 4 s) + 1 → eqAt m (nw h (nW (6 * s + S 4 s)) (8 + 1) 0) h') := by
          have z := c_X7_init hl (S := opW S s x y a b) (h := nw h (nW (6 * s + S 4 s)) (8 + 1) 0) (w := (6 * s + S 4 s)) (if_pos rfl) ((if_neg (by omega)).trans hfw.2) (if_pos rfl) (if_pos rfl) (if_pos rfl) hIw ((ef 9 (by decide) _).trans zw.1) e10 e11 ((ef 12 (by decide) _).trans zw.2.1) ((ef 13 (by decide) _).trans zw.2.2.1) (fun k k0 k1 => (ef 14 (by decide) _).trans (zw.2.2.2 _ (by omega) (by rw [e7, e8] at k1; omega)))
          rw [e5, e6, e7, e8] at z
          exact z
        refine e_new (ci := 8) (nW (6 * s + S 4 s)) dX8_openWindow_57 (by decide) clX8_59 tn_X7.1 tn_X7.2 (by unfold nW; omega) hfw.1 (by decide) (by decide) ?_
        refine e_dup dX8_openWindow_60 rfl ?_
        refine e_iload_n dX8_openWindow_61 rfl rfl ?_
        refine e_iload_n dX8_openWindow_62 rfl rfl ?_
        refine e_iload dX8_openWindow_63 rfl ?_
        refine e_iload dX8_openWindow_65 rfl ?_
        refine e_callI (As := [zI _, zI _, zI _, zI _]) dX8_openWindow_67 moX7_init miX7_init rfl rfl mlX8_61 rfl (Nat.le_of_ble_eq_true rfl) ⟨by decide, by decide, by decide, by decide⟩ hcon (fun E h1 q => by cases q.1) (fun v h1 q => ?_)
        obtain ⟨e1, hRw, hf8⟩ := q; cases e1
        rename zH => h8
        have fr8 : ∀ m, m ≠ nW (6 * s + S 4 s) → m ≠ nW (6 * s + S 4 s) + 1 → eqAt m h h8 := fun m m1 m2 => eqAt_tr (eqAt_nw m1) (hf8 m m1 m2)
        have nsw : ∀ j, j ≤ 18 → nS s + j ≠ nW (6 * s + S 4 s) ∧ nS s + j ≠ nW (6 * s + S 4 s) + 1 := fun j hj => by unfold nS nW; omega
        have ns8 : ∀ j, j ≤ 18 → eqAt (nS s + j) h h8 := fun j hj => fr8 _ (nsw j hj).1 (nsw j hj).2
        have hV8 : RV S h8 s := RV_fr (ns8 0 (by decide)) (ns8 2 (by decide)) (ns8 15 (by decide)) (fun v hv => ⟨fr8 _ (by unfold nW; omega) (by unfold nW; omega), fr8 _ (by unfold nW; omega) (by unfold nW; omega)⟩) hV
        have hWs8 : RWs (opW S s x y a b) h8 s := fun v hv => by
          by_cases z : v = (6 * s + S 4 s)
          · rw [z]; exact hRw
          · have hv2 : hasW S s v := by
              rw [hasW, opW_g (by decide)] at hv
              simp at hv
              omega
            obtain ⟨g1, g2, g3, g4, g5, g6, g7, g8, g9, g10⟩ := hIW s v hv2
            refine RW_ag (fun f f5 f13 => ?_) (fun k _ _ => ef 14 (by decide) _) (area_le g5 g6 g7 g8).2 (RW_at (fr8 _ (by unfold nW; omega) (by unfold nW; omega)) (fr8 _ (by unfold nW; omega) (by unfold nW; omega)) (hWs v hv2))
            by_cases y9 : (5 ≤ f ∧ f ≤ 8) ∨ f = 10 ∨ f = 11
            · rw [opW_g (by omega), if_neg (by omega), if_neg (by omega), if_neg (by omega), if_neg z]
            · exact ef f (by omega) v
        have hb1 : ∀ u, opW S s x y a b 11 u = 0 ∨ opW S s x y a b 11 u = 1 := fun u => by
          rw [opW_g (by decide), if_neg (by decide), if_neg (by decide), if_neg (by decide)]
          by_cases z : u = (6 * s + S 4 s)
          · rw [if_pos z]
            exact Or.inr rfl
          · rw [if_neg z]
            exact hbt 11 (by decide) u
        refine e_callV (As := [zR _]) (cb := 6) dX8_openWindow_70 moX5_addWindow mvX5_addWindow mlX8_64 (by decide) rfl (show zK h8 (nS s) = 6 + 1 from (ns8 0 (by decide)).1.trans o1) rfl (Nat.le_of_ble_eq_true rfl) ⟨by decide, by decide, by decide, by decide⟩ (c_X5_addWindow hl (S' := opW S s x y a b) hV8 (RWn_at (ns8 1 (by decide)) hWn) (RCo_at (ns8 4 (by decide)) hC) hW6 (by rw [opW_g (by decide)]; simp) (by rw [opW_g (by decide)]; simp) (ef 31 (by decide) s) (by rw [opW_g (by decide)]; simp) (fun j j0 j1 => by rw [opW_g (by decide), if_neg (by decide), if_pos rfl, if_neg (by omega)]) hI4.1.1 hI4.1.2.1 hI4.1.2.2.1 hb1 hWs8) (fun E h1 q => by cases q.1) (fun v h1 q => ?_)
        obtain ⟨e1, hV9, hWn9, hC9, hf9⟩ := q; cases e1
        refine e_iret dX8_openWindow_73 rfl trivial (by decide) (by decide) ?_
        have hfin := RC_win hI hI4.1 hs0 (opW_e hW6 (by omega) (by omega) (by omega)) (fun f hf j => ef f (by omega) j) hV9 hWn9 (fun m m1 m2 m3 => eqAt_tr (fr8 m (m2 (6 * s + S 4 s) (by omega) (by omega)).1 (m2 (6 * s + S 4 s) (by omega) (by omega)).2) (hf9 m (m1 0 (by decide)) (m1 1 (by decide)) (m1 2 (by decide)) m3 (m1 15 (by decide)))) hC9 (fun _ _ => eqAt_rf) (fun v v0 v1 => by
          rw [opW_g (by decide)] at v0
          simp at v0
          have z := hRf.2.1 s v s0 s4 (by omega) v1
          exact ⟨(hf9 _ (by unfold nW nS; omega) (by unfold nW nS; omega) (by unfold nW nS; omega) (by unfold nW nS; omega) (by unfold nW nS; omega)).1.trans ((fr8 _ (by unfold nW; omega) (by unfold nW; omega)).1.trans z.1), (hf9 _ (by unfold nW nS; omega) (by unfold nW nS; omega) (by unfold nW nS; omega) (by unfold nW nS; omega) (by unfold nW nS; omega)).1.trans ((fr8 _ (by unfold nW; omega) (by unfold nW; omega)).1.trans z.2)⟩) hR
        exact QC_ok (by first | (rw [if_neg (by omega)]; done) | (rw [if_neg (by omega), if_neg (by omega)]; done) | (rw [if_neg (by omega), if_neg (by omega), if_neg (by omega)]; done) | (rw [if_neg (by omega), if_neg (by omega), if_neg (by omega), if_neg (by omega)]; done)) rfl (fun m hm => eqAt_tr (fr8 m (by unfold nW; omega) (by unfold nW; omega)) (hf9 m (by unfold nS; omega) (by unfold nS; omega) (by unfold nS; omega) (by unfold nS; omega) (by unfold nS; omega))) hfin
      · skip
        refine e_throw (cls := "java/lang/IllegalStateException") (text := "the session had 6 windows") dX8_openWindow_45 dX8_openWindow_48 dX8_openWindow_49 dX8_openWindow_51 dX8_openWindow_54 (by decide +kernel) txX8_30 txI_IllegalStateException (by decide +kernel) (by decide +kernel) zatX8_34 rfl (by decide) (by decide) (Nat.le_of_ble_eq_true rfl) (by decide) (by decide) ?_
        first
          | exact QC_no (x := 1) (by first | (rw [if_pos (by omega)]; done) | (rw [if_neg (by omega), if_pos (by omega)]; done) | (rw [if_neg (by omega), if_neg (by omega), if_pos (by omega)]; done) | (rw [if_neg (by omega), if_neg (by omega), if_neg (by omega), if_pos (by omega)]; done)) (by decide) rfl (fun _ _ => eqAt_rf) hR
          | exact QC_no (x := 2) (by first | (rw [if_pos (by omega)]; done) | (rw [if_neg (by omega), if_pos (by omega)]; done) | (rw [if_neg (by omega), if_neg (by omega), if_pos (by omega)]; done) | (rw [if_neg (by omega), if_neg (by omega), if_neg (by omega), if_pos (by omega)]; done)) (by decide) rfl (fun _ _ => eqAt_rf) hR
          | exact QC_no (x := 3) (by first | (rw [if_pos (by omega)]; done) | (rw [if_neg (by omega), if_pos (by omega)]; done) | (rw [if_neg (by omega), if_neg (by omega), if_pos (by omega)]; done) | (rw [if_neg (by omega), if_neg (by omega), if_neg (by omega), if_pos (by omega)]; done)) (by decide) rfl (fun _ _ => eqAt_rf) hR
    · skip
      try simp only [b2_0, b2_n0] at c22
      refine e_throw (cls := "java/lang/IllegalArgumentException") (text := "a number is out of range") dX8_openWindow_25 dX8_openWindow_28 dX8_openWindow_29 dX8_openWindow_31 dX8_openWindow_34 (by decide +kernel) txX8_48 txI_IllegalArgumentException (by decide +kernel) (by decide +kernel) zatX8_52 rfl (by decide) (by decide) (Nat.le_of_ble_eq_true rfl) (by decide) (by decide) ?_
      first
        | exact QC_no (x := 1) (by first | (rw [if_pos (by omega)]; done) | (rw [if_neg (by omega), if_pos (by omega)]; done) | (rw [if_neg (by omega), if_neg (by omega), if_pos (by omega)]; done) | (rw [if_neg (by omega), if_neg (by omega), if_neg (by omega), if_pos (by omega)]; done)) (by decide) rfl (fun _ _ => eqAt_rf) hR
        | exact QC_no (x := 2) (by first | (rw [if_pos (by omega)]; done) | (rw [if_neg (by omega), if_pos (by omega)]; done) | (rw [if_neg (by omega), if_neg (by omega), if_pos (by omega)]; done) | (rw [if_neg (by omega), if_neg (by omega), if_neg (by omega), if_pos (by omega)]; done)) (by decide) rfl (fun _ _ => eqAt_rf) hR
        | exact QC_no (x := 3) (by first | (rw [if_pos (by omega)]; done) | (rw [if_neg (by omega), if_pos (by omega)]; done) | (rw [if_neg (by omega), if_neg (by omega), if_pos (by omega)]; done) | (rw [if_neg (by omega), if_neg (by omega), if_neg (by omega), if_pos (by omega)]; done)) (by decide) rfl (fun _ _ => eqAt_rf) hR
