set_option maxHeartbeats 4000000 in
set_option maxRecDepth 100000 in
theorem c_X8_nextChange {l : Launch} (hl : l.stackTraces = false) {S : S9} {h : zH} {B : Int} (hR : RC S h) (hI : II S B) (c : Int) (hcz : zin c)  : zC l MX8_nextChange [zR (some 2), zI c] h (QN S h c) := by
  refine zC_of hl rfl rfl (by decide) rfl rfl (Nat.le_of_ble_eq_true rfl) ?_
  have hN : IN S := hI.1.1
  have hIW : IW S := hI.1.2.1
  have hIO : IO S := hI.1.2.2.1
  have hIC : IC S := hI.1.2.2.2.1
  have hIK : IK S := hI.1.2.2.2.2
  have hB3 := hI.2.2.1
  have hbt := hI.2.2.2.2
  obtain ⟨⟨⟨p1, p2, p3, p4, p5⟩, ⟨y1, y2, y3⟩, ⟨x1, x2, x3⟩, v1, v2, v3⟩, hRs, hRc, hRf⟩ := id hR
  obtain ⟨n1, n2, n3, n4, n5⟩ := id hN
  refine e_aload_n dX8_nextChange_0 rfl rfl ?_
  refine e_iload_n dX8_nextChange_1 rfl rfl ?_
  refine e_callV (As := [zI _]) (cb := 9) dX8_nextChange_2 moX8_clientAt mvX8_clientAt mlX8_139 (by decide) rfl (show zK _ 2 = 9 + 1 from p1) rfl (Nat.le_of_ble_eq_true rfl) ⟨by decide, by decide, by decide, by decide⟩ (c_X8_clientAt hl hR hN c hcz) (fun E h9 q => by (obtain ⟨e2, hz, e1⟩ := Qat_r q); subst e1; subst e2; exact AX_out rfl (by decide) (by decide) ⟨hR, FL_rf, Or.inr (Or.inl ⟨hz, rfl⟩)⟩) (fun v h9 q => ?_)
  obtain ⟨e2, hc0, e1⟩ := Qat_l q; cases e1; rw [e2]; clear q e2 h9
  obtain ⟨hCl, hCh⟩ := hRc c hc0
  obtain ⟨r1, r2, r3, r4, r5, r6, r7, r8⟩ := id hCl
  have K3 : zK h (nC c) = 2 + 1 := r1
  have hcs := hIC c hc0.1 hc0.2
  have hsc := RC_scr hIC hR hc0
  refine e_getR dX8_nextChange_5 flX8_341 rfl K3 r4 ?_
  refine e_astore_n dX8_nextChange_8 rfl (by decide) rfl rfl ?_
  refine e_aload_n dX8_nextChange_9 rfl rfl ?_
  refine e_callV (As := []) (cb := 1) dX8_nextChange_10 moX0_find mvX0_find mlX8_345 (by decide) rfl (show zK h (nC c + 1) = 1 + 1 from hCh.1.1.1) rfl (Nat.le_of_ble_eq_true rfl) ⟨by decide, by decide, by decide, by decide⟩ (c_X0_find hl hCh hsc (by omega) hcs.1 (by omega) hc0.1) (fun E h1 q => by cases q.1) (fun v h1 q => ?_)
  obtain ⟨e1, g1, g2, g3⟩ := q; cases e1
  rename zH => h3
  have fr3 : ∀ m, (∀ k, k ≤ 4 → m ≠ nC c + k) → eqAt m h h3 := fun m hm => g3 m (hm 1 (by decide)) (hm 4 (by decide))
  have hR3 : RC S h3 := RC_cliJ (IJ_II hI) hc0 (fun _ _ _ _ => rfl) ⟨RCl_at (g3 _ (by omega) (by omega)) hCl, g1⟩ fr3 hI.1 hR
  have hF3 : FL h h3 := FL_c hc0.1 (by omega) fr3
  obtain ⟨srt, cst, e104, e105, hx⟩ : ∃ srt cst, zf h3 104 (nC c + 1) = srt ∧ zf h3 105 (nC c + 1) = cst ∧ ((¬ hasN S c ∧ srt = 32) ∨ (hasN S c ∧ srt = (bstC S c).1 ∧ cst = (bstC S c).2.1)) := by
    refine ⟨_, _, rfl, rfl, ?_⟩
    rcases g2 with ⟨f1, f2⟩ | ⟨f1, f2, f3, -⟩
    · exact Or.inl ⟨f1, f2⟩
    · exact Or.inr ⟨f1, f2, f3⟩
  have hkd : hasN S c → srt ≠ 32 := fun z => by
    have y := bst_kind z
    omega
  refine e_aload_n dX8_nextChange_13 rfl rfl ?_
  refine e_getI dX8_nextChange_14 flX8_170 rfl (show zK h3 (nC c + 1) = 1 + 1 from g1.1.1.1) e104 (fun r14 => ?_)
  refine e_bipush dX8_nextChange_17 (by decide) ?_
  refine e_icmp_ne (tgt := 33) dX8_nextChange_19 (by decide) (by omega) (by omega) (fun c19 => ?_) (fun c19 => ?_)
  · skip
    refine e_aload_n dX8_nextChange_33 rfl rfl ?_
    refine e_aret dX8_nextChange_34 rfl rfl (by decide) (by decide) ?_
    exact ⟨hR3, hF3, Or.inl ⟨hc0, by omega, rfl, g1.1.1.1, by omega, by omega⟩⟩
  · skip
    refine e_throwN (cls := "java/util/NoSuchElementException") (text := "the client is not behind") dX8_nextChange_22 dX8_nextChange_25 dX8_nextChange_26 dX8_nextChange_29 dX8_nextChange_32 (by decide +kernel) txX8_258 txI_NoSuchElementException (by decide +kernel) (by decide +kernel) zatN_262 rfl (by decide) (by decide) (Nat.le_of_ble_eq_true rfl) (by decide) (by decide) ?_
    exact ⟨hR3, hF3, Or.inr (Or.inr ⟨hc0, by omega, rfl⟩)⟩
set_option maxHeartbeats 4000000 in
set_option maxRecDepth 100000 in
theorem c_X8_next {l : Launch} (hl : l.stackTraces = false) {S : S9} {h : zH} {B : Int} (hR : RC S h) (hI : II S B) (c : Int) (hcz : zin c)  : zC l MX8_next [zR (some 2), zI c] h (QC S h (if ¬ isC S c then 1 else if ¬ hasN S c then 2 else 0) [exI, exN] (zI (bstC S c).1) S) := by
  refine zC_of hl rfl rfl (by decide) rfl rfl (Nat.le_of_ble_eq_true rfl) ?_
  have hN : IN S := hI.1.1
  have hIW : IW S := hI.1.2.1
  have hIO : IO S := hI.1.2.2.1
  have hIC : IC S := hI.1.2.2.2.1
  have hIK : IK S := hI.1.2.2.2.2
  have hB3 := hI.2.2.1
  have hbt := hI.2.2.2.2
  obtain ⟨⟨⟨p1, p2, p3, p4, p5⟩, ⟨y1, y2, y3⟩, ⟨x1, x2, x3⟩, v1, v2, v3⟩, hRs, hRc, hRf⟩ := id hR
  obtain ⟨n1, n2, n3, n4, n5⟩ := id hN
  refine e_aload_n dX8_next_0 rfl rfl ?_
  refine e_iload_n dX8_next_1 rfl rfl ?_
  refine e_callV (As := [zI _]) (cb := 9) dX8_next_2 moX8_nextChange mvX8_nextChange mlX8_166 (by decide) rfl (show zK _ 2 = 9 + 1 from p1) rfl (Nat.le_of_ble_eq_true rfl) ⟨by decide, by decide, by decide, by decide⟩ (c_X8_nextChange hl hR hI c hcz) (fun E h9 q => by (obtain ⟨g1, g2, g3⟩ := QN_r q); rcases g3 with ⟨g4, rfl⟩ | ⟨g4, g5, rfl⟩; exact AX_out rfl (by decide) (by decide) (QC_no (x := 1) (by rw [if_pos g4]) (by decide) rfl (FL_m g2) g1); exact AX_out rfl (by decide) (by decide) (QC_no (x := 2) (by rw [if_neg (by omega), if_pos g5]) (by decide) rfl (FL_m g2) g1)) (fun v h1 q => ?_)
  obtain ⟨hR3, hF3, g3, g4, e1, g5, g6, g7⟩ := QN_l q; cases e1
  have hkd := bst_kind g4
  refine e_getI dX8_next_5 flX8_170 rfl (show zK _ (nC c + 1) = 1 + 1 from g5) g6 (fun r5 => ?_)
  refine e_iret dX8_next_8 rfl (by first | trivial | exact ⟨by omega, by omega⟩) (by decide) (by decide) ?_
  exact QC_ok (by rw [if_neg (by omega), if_neg (by omega)]) rfl (FL_m hF3) hR3
set_option maxHeartbeats 4000000 in
set_option maxRecDepth 100000 in
theorem c_X8_nextCost {l : Launch} (hl : l.stackTraces = false) {S : S9} {h : zH} {B : Int} (hR : RC S h) (hI : II S B) (c : Int) (hcz : zin c)  : zC l MX8_nextCost [zR (some 2), zI c] h (QC S h (if ¬ isC S c then 1 else if ¬ hasN S c then 2 else 0) [exI, exN] (zI (bstC S c).2.1) S) := by
  refine zC_of hl rfl rfl (by decide) rfl rfl (Nat.le_of_ble_eq_true rfl) ?_
  have hN : IN S := hI.1.1
  have hIW : IW S := hI.1.2.1
  have hIO : IO S := hI.1.2.2.1
  have hIC : IC S := hI.1.2.2.2.1
  have hIK : IK S := hI.1.2.2.2.2
  have hB3 := hI.2.2.1
  have hbt := hI.2.2.2.2
  obtain ⟨⟨⟨p1, p2, p3, p4, p5⟩, ⟨y1, y2, y3⟩, ⟨x1, x2, x3⟩, v1, v2, v3⟩, hRs, hRc, hRf⟩ := id hR
  obtain ⟨n1, n2, n3, n4, n5⟩ := id hN
  refine e_aload_n dX8_nextCost_0 rfl rfl ?_
  refine e_iload_n dX8_nextCost_1 rfl rfl ?_
  refine e_callV (As := [zI _]) (cb := 9) dX8_nextCost_2 moX8_nextChange mvX8_nextChange mlX8_166 (by decide) rfl (show zK _ 2 = 9 + 1 from p1) rfl (Nat.le_of_ble_eq_true rfl) ⟨by decide, by decide, by decide, by decide⟩ (c_X8_nextChange hl hR hI c hcz) (fun E h9 q => by (obtain ⟨g1, g2, g3⟩ := QN_r q); rcases g3 with ⟨g4, rfl⟩ | ⟨g4, g5, rfl⟩; exact AX_out rfl (by decide) (by decide) (QC_no (x := 1) (by rw [if_pos g4]) (by decide) rfl (FL_m g2) g1); exact AX_out rfl (by decide) (by decide) (QC_no (x := 2) (by rw [if_neg (by omega), if_pos g5]) (by decide) rfl (FL_m g2) g1)) (fun v h1 q => ?_)
  obtain ⟨hR3, hF3, g3, g4, e1, g5, g6, g7⟩ := QN_l q; cases e1
  have hkd := bst_kind g4
  refine e_getI dX8_nextCost_5 flX8_176 rfl (show zK _ (nC c + 1) = 1 + 1 from g5) g7 (fun r5 => ?_)
  refine e_iret dX8_nextCost_8 rfl (by first | trivial | exact ⟨by omega, by omega⟩) (by decide) (by decide) ?_
  exact QC_ok (by rw [if_neg (by omega), if_neg (by omega)]) rfl (FL_m hF3) hR3
set_option maxHeartbeats 4000000 in
set_option maxRecDepth 100000 in
theorem c_X8_canPass {l : Launch} (hl : l.stackTraces = false) {S : S9} {h : zH} (hTp : RTop S h) {a b : Int} (hCp : RClp S h a) (hz : S 22 a ≠ 0) (hk : 0 ≤ S 22 a ∧ S 22 a ≤ 3) (hb24 : ∀ j, S 24 j = 0 ∨ S 24 j = 1) (hb25 : ∀ j, S 25 j = 0 ∨ S 25 j = 1) (b0 : 0 ≤ b) (b4 : b < 4)  : zC l MX8_canPass [zR (some 2), zR (some (nS a + 5)), zI b] h (fun o h' => o = .inl (some (zI (b2 (mayN S a b 4 = 1)))) ∧ h' = h) := by
  refine zC_of hl rfl rfl (by decide) rfl rfl (Nat.le_of_ble_eq_true rfl) ?_
  obtain ⟨⟨p1, p2, p3, p4, p5⟩, -, -, v1, v2, v3⟩ := id hTp
  have hc2 := hCp.2.2 hz
  refine e_iconst dX8_canPass_0 ?_
  refine e_istore_n dX8_canPass_1 rfl (by decide) rfl rfl ?_
  have lp2 : ∀ (d : Nat) (i : Int), (4 - i).toNat < d → 0 ≤ i → i ≤ 4 → mayN S a b i.toNat = 1 → AW l MX8_canPass (fun o h' => o = .inl (some (zI (b2 (mayN S a b 4 = 1)))) ∧ h' = h) 0 0 2 [zR (some 2), zR (some (nS a + 5)), zI b, zI i, zX] [] h := by
    intro d
    induction d with
    | zero => intro i hd i0 i1 hm; exact absurd hd (by omega)
    | succ d ih =>
      have ih2 := ih
      intro i hd i0 i1 hm
      refine e_iload_n dX8_canPass_2 rfl rfl ?_
      refine e_iconst dX8_canPass_3 ?_
      refine e_icmp_ge (tgt := 60) dX8_canPass_4 (by decide) (by omega) (by omega) (fun c4 => ?_) (fun c4 => ?_)
      · skip
        refine e_iconst dX8_canPass_60 ?_
        refine e_iret dX8_canPass_61 rfl (by first | exact Or.inl rfl | exact Or.inr rfl | assumption | exact b2_01) (by decide) (by decide) ?_
        rw [show i.toNat = 4 by omega] at hm
        exact ⟨zqe (by rw [hm]; rfl), rfl⟩
      · skip
        refine e_aload_n dX8_canPass_7 rfl rfl ?_
        refine e_getI dX8_canPass_8 flX8_272 rfl (show zK h (nS a + 5) = 3 + 1 from hCp.1) hc2.2.2 (fun r8 => ?_)
        refine e_iconst dX8_canPass_11 ?_
        refine e_iload_n dX8_canPass_12 rfl rfl ?_
        obtain ⟨b9, eb, hb9⟩ := shl_1 i0 (show i < 4 by omega)
        obtain ⟨x9, ex, x90, x98, hx9⟩ := and_bit (hb24 (4 * a)) (hb24 (4 * a + 1)) (hb24 (4 * a + 2)) (hb24 (4 * a + 3)) hb9
        have e_i : S 24 (4 * a + i) = if i = 0 then S 24 (4 * a) else if i = 1 then S 24 (4 * a + 1) else if i = 2 then S 24 (4 * a + 2) else S 24 (4 * a + 3) := by
          rcases (show i = 0 ∨ i = 1 ∨ i = 2 ∨ i = 3 by omega) with rfl | rfl | rfl | rfl
          · rw [if_pos rfl, Int.add_zero]
          · rfl
          · rfl
          · rfl
        rw [← e_i] at hx9
        have b24 := hb24 (4 * a + i)
        have ems : mayN S a b (i + 1).toNat = b2 (S 24 (4 * a + i) ≠ 1 ∨ i = b ∨ S 25 ((4 * i + b) * 3 + (S 22 a - 1)) = 1) := by
          rw [show (i + 1).toNat = i.toNat + 1 by omega, mayN_s, show ((i.toNat : Nat) : Int) = i by omega, hm]
          by_cases z : S 24 (4 * a + i) ≠ 1 ∨ i = b ∨ S 25 ((4 * i + b) * 3 + (S 22 a - 1)) = 1
          · rw [b2_t z, b2_t ⟨rfl, z⟩]
          · rw [b2_f z, b2_f (fun y => z y.2)]
        refine e_ishl dX8_canPass_13 eb ?_
        refine e_iand dX8_canPass_14 ex ?_
        refine e_if_eq (tgt := 22) dX8_canPass_15 (by decide) (by omega) (fun c15 => ?_) (fun c15 => ?_)
        · skip
          try simp only [b2_0, b2_n0] at c15
          refine e_iconst dX8_canPass_22 ?_
          refine e_istore dX8_canPass_23 (by decide) rfl rfl ?_
          refine e_iload dX8_canPass_25 rfl ?_
          refine e_if_eq (tgt := 54) dX8_canPass_27 (by decide) (by omega) (fun c27 => ?_) (fun c27 => ?_)
          · skip
            refine e_iinc dX8_canPass_54 (by decide) rfl rfl rfl rfl ?_
            refine e_goto (tgt := 2) dX8_canPass_57 (by decide) ?_
            refine e_mask [true, true, true, true, false] ?_
            exact ih2 _ (by omega) (by omega) (by omega) (by rw [ems, b2_t (by omega)])
          · skip
            exfalso; omega
        · skip
          try simp only [b2_0, b2_n0] at c15
          refine e_iconst dX8_canPass_18 ?_
          refine e_goto (tgt := 23) dX8_canPass_19 (by decide) ?_
          refine e_istore dX8_canPass_23 (by decide) rfl rfl ?_
          refine e_iload dX8_canPass_25 rfl ?_
          refine e_if_eq (tgt := 54) dX8_canPass_27 (by decide) (by omega) (fun c27 => ?_) (fun c27 => ?_)
          · skip
            exfalso; omega
          · skip
            refine e_iload_n dX8_canPass_30 rfl rfl ?_
            refine e_iload_n dX8_canPass_31 rfl rfl ?_
            refine e_icmp_eq (tgt := 54) dX8_canPass_32 (by decide) (by omega) (by omega) (fun c32 => ?_) (fun c32 => ?_)
            · skip
              refine e_iinc dX8_canPass_54 (by decide) rfl rfl rfl rfl ?_
              refine e_goto (tgt := 2) dX8_canPass_57 (by decide) ?_
              refine e_mask [true, true, true, true, false] ?_
              exact ih2 _ (by omega) (by omega) (by omega) (by rw [ems, b2_t (by omega)])
            · skip
              refine e_aload_n dX8_canPass_35 rfl rfl ?_
              refine e_getR dX8_canPass_36 flX8_21 rfl (show zK _ 2 = 9 + 1 from p1) p4 ?_
              refine e_iload_n dX8_canPass_39 rfl rfl ?_
              refine e_iload_n dX8_canPass_40 rfl rfl ?_
              refine e_aload_n dX8_canPass_41 rfl rfl ?_
              refine e_getI dX8_canPass_42 flX8_269 rfl (show zK h (nS a + 5) = 3 + 1 from hCp.1) hc2.2.1 (fun r42 => ?_)
              refine e_callS (As := [zI _, zI _, zI _]) dX8_canPass_45 moX8_rightNumber msX8_rightNumber mlX8_252 rfl (Nat.le_of_ble_eq_true rfl) ⟨by decide, by decide, by decide, by decide⟩ (c_X8_rightNumber hl i b (S 22 a - 1)) (fun E h1 q => by cases q.1) (fun v h9 q => ?_)
              obtain ⟨e1, e2⟩ := q; cases e1; rw [e2]; clear e2 h9
              refine e_zald dX8_canPass_48 v1 (by omega) (by rw [v2]; omega) (v3 _ (by omega) (by omega)) (fun r48 => ?_)
              refine e_if_ne (tgt := 54) dX8_canPass_49 (by decide) (by omega) (fun c49 => ?_) (fun c49 => ?_)
              · skip
                try simp only [b2_0, b2_n0] at c49
                refine e_iinc dX8_canPass_54 (by decide) rfl rfl rfl rfl ?_
                refine e_goto (tgt := 2) dX8_canPass_57 (by decide) ?_
                refine e_mask [true, true, true, true, false] ?_
                exact ih2 _ (by omega) (by omega) (by omega) (by rw [ems, b2_t (by omega)])
              · skip
                try simp only [b2_0, b2_n0] at c49
                refine e_iconst dX8_canPass_52 ?_
                refine e_iret dX8_canPass_53 rfl (by first | exact Or.inl rfl | exact Or.inr rfl | assumption | exact b2_01) (by decide) (by decide) ?_
                have hz0 : mayN S a b (i + 1).toNat = 0 := by rw [ems, b2_f (by omega)]
                have z := mayN_0 hz0 (4 - (i + 1).toNat)
                rw [show (i + 1).toNat + (4 - (i + 1).toNat) = 4 by omega] at z
                exact ⟨zqe (by rw [z]; rfl), rfl⟩
  exact lp2 5 0 (by decide) (by decide) (by decide) rfl
set_option maxHeartbeats 4000000 in
set_option maxRecDepth 100000 in
theorem c_X8_paste {l : Launch} (hl : l.stackTraces = false) {S : S9} {h : zH} {B : Int} (hR : RC S h) (hI : II S B) (a : Int) (haz : zin a) (b : Int) (hbz : zin b)  : zC l MX8_paste [zR (some 2), zI a, zI b] h (QC S h (if ¬ (isS S a ∧ isS S b) ∨ a = b then 1 else if S 22 a = 0 then 2 else if mayN S a b 4 = 0 then 3 else 0) [exI, exN, exU] (zI (S 23 a)) (pasS S a b)) := by
  refine zC_of hl rfl rfl (by decide) rfl rfl (Nat.le_of_ble_eq_true rfl) ?_
  have hN : IN S := hI.1.1
  have hIW : IW S := hI.1.2.1
  have hIO : IO S := hI.1.2.2.1
  have hIC : IC S := hI.1.2.2.2.1
  have hIK : IK S := hI.1.2.2.2.2
  have hB3 := hI.2.2.1
  have hbt := hI.2.2.2.2
  obtain ⟨⟨⟨p1, p2, p3, p4, p5⟩, ⟨y1, y2, y3⟩, ⟨x1, x2, x3⟩, v1, v2, v3⟩, hRs, hRc, hRf⟩ := id hR
  obtain ⟨n1, n2, n3, n4, n5⟩ := id hN
  refine e_aload_n dX8_paste_0 rfl rfl ?_
  refine e_iload_n dX8_paste_1 rfl rfl ?_
  refine e_callV (As := [zI _]) (cb := 9) dX8_paste_2 moX8_sessionAt mvX8_sessionAt mlX8_37 (by decide) rfl (show zK _ 2 = 9 + 1 from p1) rfl (Nat.le_of_ble_eq_true rfl) ⟨by decide, by decide, by decide, by decide⟩ (c_X8_sessionAt hl hR hN a haz) (fun E h9 q => by (obtain ⟨e2, hz, e1⟩ := Qat_r q); subst e1; subst e2; exact AX_out rfl (by decide) (by decide) (QC_no (x := 1) (by first | (rw [if_pos (by omega)]; done) | (rw [if_neg (by omega), if_pos (by omega)]; done) | (rw [if_neg (by omega), if_neg (by omega), if_pos (by omega)]; done) | (rw [if_neg (by omega), if_neg (by omega), if_neg (by omega), if_pos (by omega)]; done)) (by decide) rfl (fun _ _ => eqAt_rf) hR)) (fun v h9 q => ?_)
  obtain ⟨e2, ha0, e1⟩ := Qat_l q; cases e1; rw [e2]; clear q e2 h9
  have hVa0 := (hRs a ha0).1.2.2.2.2.1
  refine e_getR dX8_paste_5 flX8_228 rfl (show zK h (nS a) = 6 + 1 from hVa0.1) hVa0.2.2.2.2.2.1 ?_
  refine e_astore_n dX8_paste_8 rfl (by decide) rfl rfl ?_
  refine e_aload_n dX8_paste_9 rfl rfl ?_
  refine e_iload_n dX8_paste_10 rfl rfl ?_
  refine e_callV (As := [zI _]) (cb := 9) dX8_paste_11 moX8_sessionAt mvX8_sessionAt mlX8_37 (by decide) rfl (show zK _ 2 = 9 + 1 from p1) rfl (Nat.le_of_ble_eq_true rfl) ⟨by decide, by decide, by decide, by decide⟩ (c_X8_sessionAt hl hR hN b hbz) (fun E h9 q => by (obtain ⟨e2, hz, e1⟩ := Qat_r q); subst e1; subst e2; exact AX_out rfl (by decide) (by decide) (QC_no (x := 1) (by first | (rw [if_pos (by omega)]; done) | (rw [if_neg (by omega), if_pos (by omega)]; done) | (rw [if_neg (by omega), if_neg (by omega), if_pos (by omega)]; done) | (rw [if_neg (by omega), if_neg (by omega), if_neg (by omega), if_pos (by omega)]; done)) (by decide) rfl (fun _ _ => eqAt_rf) hR)) (fun v h9 q => ?_)
  obtain ⟨e2, hb0, e1⟩ := Qat_l q; cases e1; rw [e2]; clear q e2 h9
  obtain ⟨hVa, -, -, -, hCa, -, -, -⟩ := hRs a ha0
  obtain ⟨hVb, -, -, -, hCb, -, -, -⟩ := hRs b hb0
  have hoa := hVa.2.2.2.2.1
  have hob := hVb.2.2.2.2.1
  have ha4 : a < 4 := by omega
  have hb4 : b < 4 := by omega
  have z5 := hI.2.2.2.1.2.2.2.2 a ha0.1 ha4
  have hci : zf h 300 (nS a + 5) = if S 22 a = 0 then -1 else S 23 a := by
    by_cases z : S 22 a = 0
    · rw [if_pos z]; exact hCa.2.1 z
    · rw [if_neg z]; exact (hCa.2.2 z).1
  obtain ⟨ct, hct⟩ : ∃ ct, ct = if S 22 a = 0 then -1 else S 23 a := ⟨_, rfl⟩
  rw [← hct] at hci
  have hct2 : (S 22 a = 0 ∧ ct = -1) ∨ (S 22 a ≠ 0 ∧ ct = S 23 a) := by
    by_cases z : S 22 a = 0
    · exact Or.inl ⟨z, by rw [hct, if_pos z]⟩
    · exact Or.inr ⟨z, by rw [hct, if_neg z]⟩
  refine e_getR dX8_paste_14 flX8_228 rfl (show zK h (nS b) = 6 + 1 from hob.1) hob.2.2.2.2.2.1 ?_
  refine e_astore dX8_paste_17 (by decide) rfl rfl ?_
  refine e_iload_n dX8_paste_19 rfl rfl ?_
  refine e_iload_n dX8_paste_20 rfl rfl ?_
  refine e_icmp_ne (tgt := 35) dX8_paste_21 (by decide) (by omega) (by omega) (fun c21 => ?_) (fun c21 => ?_)
  · skip
    refine e_aload_n dX8_paste_35 rfl rfl ?_
    refine e_getI dX8_paste_36 flX8_232 rfl (show zK h (nS a + 5) = 3 + 1 from hCa.1) hci (fun r36 => ?_)
    refine e_iconst dX8_paste_39 ?_
    refine e_icmp_ne (tgt := 54) dX8_paste_40 (by decide) (by omega) (by omega) (fun c40 => ?_) (fun c40 => ?_)
    · skip
      refine e_aload_n dX8_paste_54 rfl rfl ?_
      refine e_aload_n dX8_paste_55 rfl rfl ?_
      refine e_iload_n dX8_paste_56 rfl rfl ?_
      refine e_callV (As := [zR _, zI _]) (cb := 9) dX8_paste_57 moX8_canPass mvX8_canPass mlX8_263 (by decide) rfl (show zK _ 2 = 9 + 1 from p1) rfl (Nat.le_of_ble_eq_true rfl) ⟨by decide, by decide, by decide, by decide⟩ (c_X8_canPass hl hR.1 hCa (by omega) ⟨z5.1, z5.2.1⟩ (hbt 24 (by decide)) (hbt 25 (by decide)) hb0.1 hb4) (fun E h1 q => by cases q.1) (fun v h9 q => ?_)
      obtain ⟨e1, e2⟩ := q; cases e1; rw [e2]; clear e2 h9
      have my := mayN_01 (S := S) (a := a) (b := b) 4
      refine e_if_ne (tgt := 74) dX8_paste_60 (by decide) b2_in (fun c60 => ?_) (fun c60 => ?_)
      · skip
        try simp only [b2_0, b2_n0] at c60
        have hz22 : S 22 a ≠ 0 := by omega
        have hc2 := hCa.2.2 hz22
        have hz23 := z5.2.2 hz22
        have my := mayN_01 (S := S) (a := a) (b := b) 4
        obtain ⟨b9, eb, hb9⟩ := shl_1 hb0.1 hb4
        have eor := or_bit (hbt 24 (by decide) (4 * a)) (hbt 24 (by decide) (4 * a + 1)) (hbt 24 (by decide) (4 * a + 2)) (hbt 24 (by decide) (4 * a + 3)) hb9
        have g0 := b2_le (p := (0 : Int) = b ∨ S 24 (4 * a) = 1)
        have g1 := b2_le (p := (1 : Int) = b ∨ S 24 (4 * a + 1) = 1)
        have g2 := b2_le (p := (2 : Int) = b ∨ S 24 (4 * a + 2) = 1)
        have g3 := b2_le (p := (3 : Int) = b ∨ S 24 (4 * a + 3) = 1)
        refine e_aload dX8_paste_74 rfl ?_
        refine e_aload_n dX8_paste_76 rfl rfl ?_
        refine e_getI dX8_paste_77 flX8_232 rfl (show zK h (nS a + 5) = 3 + 1 from hCa.1) hc2.1 (fun r77 => ?_)
        refine e_aload_n dX8_paste_80 rfl rfl ?_
        refine e_getI dX8_paste_81 flX8_269 rfl (show zK h (nS a + 5) = 3 + 1 from hCa.1) hc2.2.1 (fun r81 => ?_)
        refine e_aload_n dX8_paste_84 rfl rfl ?_
        refine e_getI dX8_paste_85 flX8_272 rfl (show zK h (nS a + 5) = 3 + 1 from hCa.1) hc2.2.2 (fun r85 => ?_)
        refine e_iconst dX8_paste_88 ?_
        refine e_iload_n dX8_paste_89 rfl rfl ?_
        refine e_ishl dX8_paste_90 eb ?_
        refine e_ior dX8_paste_91 eor ?_
        refine e_callV (As := [zI _, zI _, zI _]) (cb := 3) dX8_paste_92 moX2_hold mvX2_hold mlX8_237 (by decide) rfl (show zK h (nS b + 5) = 3 + 1 from hCb.1) rfl (Nat.le_of_ble_eq_true rfl) ⟨by decide, by decide, by decide, by decide⟩ (c_X2_hold hl (nS b + 5) hCb.1 (S 23 a) (S 22 a - 1) _ (by omega) (by omega) (by omega)) (fun E h1 q => by cases q.1) (fun v h9 q => ?_)
        obtain ⟨e1, e2⟩ := q; cases e1; rw [e2]; clear e2 h9
        refine e_aload dX8_paste_95 rfl ?_
        refine e_getI dX8_paste_97 flX8_232 rfl (show zK _ (nS b + 5) = 3 + 1 from hCb.1) (show _ = S 23 a by simp [s_ff]) (fun r97 => ?_)
        refine e_iret dX8_paste_100 rfl trivial (by decide) (by decide) ?_
        have hI4 := I4_paste (II_4 hI) ha0 hb0.2 ha4
        have fr : ∀ v m, m ≠ nS b + 5 → eqAt m h (sf (sf (sf h 300 (nS b + 5) (S 23 a)) 301 (nS b + 5) (S 22 a - 1)) 302 (nS b + 5) v) := fun v m hm => eqAt_tr (eqAt_tr (eqAt_sf hm) (eqAt_sf hm)) (eqAt_sf hm)
        exact QC_ok (by first | (rw [if_neg (by omega)]; done) | (rw [if_neg (by omega), if_neg (by omega)]; done) | (rw [if_neg (by omega), if_neg (by omega), if_neg (by omega)]; done) | (rw [if_neg (by omega), if_neg (by omega), if_neg (by omega), if_neg (by omega)]; done)) rfl (fun m hm => fr _ m (by unfold nS; omega)) (RC_ses2 hI hI4.1 hb0 pasS_e (RSes_clp hI4.1 (fun f h1 h2 h3 j => pasS_f h1 h2 h3) (fr _) (RClp_pas hCb.1 hz22) (hRs b hb0)) (fun m hm _ => fr _ m ((nmS_no hm).1 5 (by decide))) (fun w w0 w1 => by
          rw [pasS_f (by decide) (by decide) (by decide)] at w0
          exact RC_freeW hR hb0.1 hb4 w w0 w1) hR)
      · skip
        try simp only [b2_0, b2_n0] at c60
        refine e_throwW (cls := "java/lang/UnsupportedOperationException") (text := "a session on the way may not pass it") dX8_paste_63 dX8_paste_66 dX8_paste_67 dX8_paste_70 dX8_paste_73 (by decide +kernel) txX8_190 txI_UnsupportedOperationException (by decide +kernel) (by decide +kernel) zatX8_194 rfl (by decide) (by decide) (Nat.le_of_ble_eq_true rfl) (by decide) (by decide) ?_
        first
          | exact QC_no (x := 1) (by first | (rw [if_pos (by omega)]; done) | (rw [if_neg (by omega), if_pos (by omega)]; done) | (rw [if_neg (by omega), if_neg (by omega), if_pos (by omega)]; done) | (rw [if_neg (by omega), if_neg (by omega), if_neg (by omega), if_pos (by omega)]; done)) (by decide) rfl (fun _ _ => eqAt_rf) hR
          | exact QC_no (x := 2) (by first | (rw [if_pos (by omega)]; done) | (rw [if_neg (by omega), if_pos (by omega)]; done) | (rw [if_neg (by omega), if_neg (by omega), if_pos (by omega)]; done) | (rw [if_neg (by omega), if_neg (by omega), if_neg (by omega), if_pos (by omega)]; done)) (by decide) rfl (fun _ _ => eqAt_rf) hR
          | exact QC_no (x := 3) (by first | (rw [if_pos (by omega)]; done) | (rw [if_neg (by omega), if_pos (by omega)]; done) | (rw [if_neg (by omega), if_neg (by omega), if_pos (by omega)]; done) | (rw [if_neg (by omega), if_neg (by omega), if_neg (by omega), if_pos (by omega)]; done)) (by decide) rfl (fun _ _ => eqAt_rf) hR
    · skip
      refine e_throwN (cls := "java/util/NoSuchElementException") (text := "the clipboard has no content") dX8_paste_43 dX8_paste_46 dX8_paste_47 dX8_paste_50 dX8_paste_53 (by decide +kernel) txX8_258 txI_NoSuchElementException (by decide +kernel) (by decide +kernel) zatN_262 rfl (by decide) (by decide) (Nat.le_of_ble_eq_true rfl) (by decide) (by decide) ?_
      first
        | exact QC_no (x := 1) (by first | (rw [if_pos (by omega)]; done) | (rw [if_neg (by omega), if_pos (by omega)]; done) | (rw [if_neg (by omega), if_neg (by omega), if_pos (by omega)]; done) | (rw [if_neg (by omega), if_neg (by omega), if_neg (by omega), if_pos (by omega)]; done)) (by decide) rfl (fun _ _ => eqAt_rf) hR
        | exact QC_no (x := 2) (by first | (rw [if_pos (by omega)]; done) | (rw [if_neg (by omega), if_pos (by omega)]; done) | (rw [if_neg (by omega), if_neg (by omega), if_pos (by omega)]; done) | (rw [if_neg (by omega), if_neg (by omega), if_neg (by omega), if_pos (by omega)]; done)) (by decide) rfl (fun _ _ => eqAt_rf) hR
        | exact QC_no (x := 3) (by first | (rw [if_pos (by omega)]; done) | (rw [if_neg (by omega), if_pos (by omega)]; done) | (rw [if_neg (by omega), if_neg (by omega), if_pos (by omega)]; done) | (rw [if_neg (by omega), if_neg (by omega), if_neg (by omega), if_pos (by omega)]; done)) (by decide) rfl (fun _ _ => eqAt_rf) hR
  · skip
    refine e_throwW (cls := "java/lang/IndexOutOfBoundsException") (text := "both sessions are the same") dX8_paste_24 dX8_paste_27 dX8_paste_28 dX8_paste_31 dX8_paste_34 (by decide +kernel) txX8_245 txI_IndexOutOfBoundsException (by decide +kernel) (by decide +kernel) zatX8_249 rfl (by decide) (by decide) (Nat.le_of_ble_eq_true rfl) (by decide) (by decide) ?_
    first
      | exact QC_no (x := 1) (by first | (rw [if_pos (by omega)]; done) | (rw [if_neg (by omega), if_pos (by omega)]; done) | (rw [if_neg (by omega), if_neg (by omega), if_pos (by omega)]; done) | (rw [if_neg (by omega), if_neg (by omega), if_neg (by omega), if_pos (by omega)]; done)) (by decide) rfl (fun _ _ => eqAt_rf) hR
      | exact QC_no (x := 2) (by first | (rw [if_pos (by omega)]; done) | (rw [if_neg (by omega), if_pos (by omega)]; done) | (rw [if_neg (by omega), if_neg (by omega), if_pos (by omega)]; done) | (rw [if_neg (by omega), if_neg (by omega), if_neg (by omega), if_pos (by omega)]; done)) (by decide) rfl (fun _ _ => eqAt_rf) hR
      | exact QC_no (x := 3) (by first | (rw [if_pos (by omega)]; done) | (rw [if_neg (by omega), if_pos (by omega)]; done) | (rw [if_neg (by omega), if_neg (by omega), if_pos (by omega)]; done) | (rw [if_neg (by omega), if_neg (by omega), if_neg (by omega), if_pos (by omega)]; done)) (by decide) rfl (fun _ _ => eqAt_rf) hR
