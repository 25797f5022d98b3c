set_option maxHeartbeats 4000000 in
set_option maxRecDepth 100000 in
theorem c_X8_rightShare {l : Launch} (hl : l.stackTraces = false) {S : S9} {h : zH} {B : Int} (hR : RC S h) (hI : II S B) (hB9 : B ≤ 2000000000) (c : Int) (hcz : zin c)  : zC l MX8_rightShare [zR (some 2), zI c] h (QC S h (if ¬ isC S c then 1 else if S 38 c = 0 then 2 else 0) [exI, exM] (zF (fsh (S 39 c) (S 38 c))) S) := by
  refine zC_of hl rfl rfl (by decide) rfl rfl (Nat.le_of_ble_eq_true rfl) ?_
  have hN : IN S := hI.1.1
  have hIW : IW S := hI.1.2.1
  have hIO : IO S := hI.1.2.2.1
  have hIC : IC S := hI.1.2.2.2.1
  have hIK : IK S := hI.1.2.2.2.2
  have hB3 := hI.2.2.1
  have hbt := hI.2.2.2.2
  obtain ⟨⟨⟨p1, p2, p3, p4, p5⟩, ⟨y1, y2, y3⟩, ⟨x1, x2, x3⟩, v1, v2, v3⟩, hRs, hRc, hRf⟩ := id hR
  obtain ⟨n1, n2, n3, n4, n5⟩ := id hN
  refine e_aload_n dX8_rightShare_0 rfl rfl ?_
  refine e_iload_n dX8_rightShare_1 rfl rfl ?_
  refine e_callV (As := [zI _]) (cb := 9) dX8_rightShare_2 moX8_clientAt mvX8_clientAt mlX8_139 (by decide) rfl (show zK _ 2 = 9 + 1 from p1) rfl (Nat.le_of_ble_eq_true rfl) ⟨by decide, by decide, by decide, by decide⟩ (c_X8_clientAt hl hR hN c hcz) (fun E h9 q => by (obtain ⟨e2, hz, e1⟩ := Qat_r q); subst e1; subst e2; exact AX_out rfl (by decide) (by decide) (QC_no (x := 1) (by first | (rw [if_pos (by omega)]; done) | (rw [if_neg (by omega), if_pos (by omega)]; done) | (rw [if_neg (by omega), if_neg (by omega), if_pos (by omega)]; done) | (rw [if_neg (by omega), if_neg (by omega), if_neg (by omega), if_pos (by omega)]; done)) (by decide) rfl (fun _ _ => eqAt_rf) hR)) (fun v h9 q => ?_)
  obtain ⟨e2, hc0, e1⟩ := Qat_l q; cases e1; rw [e2]; clear q e2 h9
  obtain ⟨hCl, hCh⟩ := hRc c hc0
  obtain ⟨r1, r2, r3, r4, r5, r6, r7, r8⟩ := id hCl
  have K3 : zK h (nC c) = 2 + 1 := r1
  have y7 := r7
  have b3 := hI.2.2.1.1 c hc0.1 hc0.2
  refine e_astore_n dX8_rightShare_5 rfl (by decide) rfl rfl ?_
  refine e_aload_n dX8_rightShare_6 rfl rfl ?_
  refine e_getI dX8_rightShare_7 flX8_217 rfl K3 y7 (fun r7 => ?_)
  refine e_if_gt (tgt := 23) dX8_rightShare_10 (by decide) (by omega) (fun c10 => ?_) (fun c10 => ?_)
  · skip
    refine e_aload_n dX8_rightShare_23 rfl rfl ?_
    refine e_getI dX8_rightShare_24 flX8_225 rfl K3 r8 (fun r24 => ?_)
    refine e_i2f dX8_rightShare_27 ?_
    refine e_aload_n dX8_rightShare_28 rfl rfl ?_
    refine e_getI dX8_rightShare_29 flX8_217 rfl K3 y7 (fun r29 => ?_)
    refine e_i2f dX8_rightShare_32 ?_
    refine e_fdiv dX8_rightShare_33 (fsh_ok (by omega) (by omega) (by omega) (by omega)) ?_
    refine e_fret dX8_rightShare_34 rfl (by decide) (by decide) ?_
    exact QC_ok (by first | (rw [if_neg (by omega)]; done) | (rw [if_neg (by omega), if_neg (by omega)]; done) | (rw [if_neg (by omega), if_neg (by omega), if_neg (by omega)]; done) | (rw [if_neg (by omega), if_neg (by omega), if_neg (by omega), if_neg (by omega)]; done)) rfl (fun _ _ => eqAt_rf) hR
  · skip
    refine e_throw (cls := "java/lang/ArithmeticException") (text := "no guess is gone") dX8_rightShare_13 dX8_rightShare_16 dX8_rightShare_17 dX8_rightShare_19 dX8_rightShare_22 (by decide +kernel) txX8_220 txI_ArithmeticException (by decide +kernel) (by decide +kernel) zatX8_224 rfl (by decide) (by decide) (Nat.le_of_ble_eq_true rfl) (by decide) (by decide) ?_
    first
      | exact QC_no (x := 1) (by first | (rw [if_pos (by omega)]; done) | (rw [if_neg (by omega), if_pos (by omega)]; done) | (rw [if_neg (by omega), if_neg (by omega), if_pos (by omega)]; done) | (rw [if_neg (by omega), if_neg (by omega), if_neg (by omega), if_pos (by omega)]; done)) (by decide) rfl (fun _ _ => eqAt_rf) hR
      | exact QC_no (x := 2) (by first | (rw [if_pos (by omega)]; done) | (rw [if_neg (by omega), if_pos (by omega)]; done) | (rw [if_neg (by omega), if_neg (by omega), if_pos (by omega)]; done) | (rw [if_neg (by omega), if_neg (by omega), if_neg (by omega), if_pos (by omega)]; done)) (by decide) rfl (fun _ _ => eqAt_rf) hR
set_option maxHeartbeats 4000000 in
set_option maxRecDepth 100000 in
theorem c_X8_meanBehind {l : Launch} (hl : l.stackTraces = false) {S : S9} {h : zH} {B : Int} (hR : RC S h) (hI : II S B)  : zC l MX8_meanBehind [zR (some 2)] h (QC S h (if S 2 0 = 0 then 1 else 0) [exM] (zD (dsh (sumB S (S 2 0)) (S 2 0))) S) := by
  refine zC_of hl rfl rfl (by decide) rfl rfl (Nat.le_of_ble_eq_true rfl) ?_
  have hN : IN S := hI.1.1
  have hIW : IW S := hI.1.2.1
  have hIO : IO S := hI.1.2.2.1
  have hIC : IC S := hI.1.2.2.2.1
  have hIK : IK S := hI.1.2.2.2.2
  have hB3 := hI.2.2.1
  have hbt := hI.2.2.2.2
  obtain ⟨⟨⟨p1, p2, p3, p4, p5⟩, ⟨y1, y2, y3⟩, ⟨x1, x2, x3⟩, v1, v2, v3⟩, hRs, hRc, hRf⟩ := id hR
  obtain ⟨n1, n2, n3, n4, n5⟩ := id hN
  refine e_iconst dX8_meanBehind_0 ?_
  refine e_istore_n dX8_meanBehind_1 rfl (by decide) rfl rfl ?_
  refine e_iconst dX8_meanBehind_2 ?_
  refine e_istore_n dX8_meanBehind_3 rfl (by decide) rfl rfl ?_
  refine e_aload_n dX8_meanBehind_4 rfl rfl ?_
  refine e_getR dX8_meanBehind_5 flX8_17 rfl (show zK _ 2 = 9 + 1 from p1) p3 ?_
  refine e_astore_n dX8_meanBehind_8 rfl (by decide) rfl rfl ?_
  refine e_aload_n dX8_meanBehind_9 rfl rfl ?_
  refine e_alen dX8_meanBehind_10 (show zK h 4 = 100 + 4 from x1) x2 ?_
  refine e_istore dX8_meanBehind_11 (by decide) rfl rfl ?_
  refine e_iconst dX8_meanBehind_13 ?_
  refine e_istore dX8_meanBehind_14 (by decide) rfl rfl ?_
  have lp16 : ∀ (d : Nat) (i v w : Int) (u : zV), z1 u = true → (6 - i).toNat < d → 0 ≤ i → i ≤ 6 → w = (if i < S 2 0 then i else S 2 0) → v = sumB S w → AW l MX8_meanBehind (QC S h (if S 2 0 = 0 then 1 else 0) [exM] (zD (dsh (sumB S (S 2 0)) (S 2 0))) S) 0 0 16 [zR (some 2), zI v, zI w, zR (some 4), zI 6, zI i, u] [] h := by
    intro d
    induction d with
    | zero => intro i v w u hu hd i0 i1 hw hv; exact absurd hd (by omega)
    | succ d ih =>
      have ih16 := ih
      intro i v w u hu hd i0 i1 hw hv
      have cc := sumB_in S (n := w) (by rw [hw]; split <;> omega) (by rw [hw]; split <;> omega)
      refine e_iload dX8_meanBehind_16 rfl ?_
      refine e_iload dX8_meanBehind_18 rfl ?_
      refine e_icmp_ge (tgt := 51) dX8_meanBehind_20 (by decide) (by omega) (by omega) (fun c20 => ?_) (fun c20 => ?_)
      · skip
        have cc2 := sumB_in S n3 n4
        refine e_iload_n dX8_meanBehind_51 rfl rfl ?_
        refine e_if_ne (tgt := 66) dX8_meanBehind_52 (by decide) (by omega) (fun c52 => ?_) (fun c52 => ?_)
        · skip
          try simp only [b2_0, b2_n0] at c52
          refine e_iload_n dX8_meanBehind_66 rfl rfl ?_
          refine e_i2d dX8_meanBehind_67 ?_
          refine e_iload_n dX8_meanBehind_68 rfl rfl ?_
          refine e_i2d dX8_meanBehind_69 ?_
          refine e_ddiv dX8_meanBehind_70 (dsh_ok (by omega) (by omega) (by omega) (by omega)) ?_
          refine e_dret dX8_meanBehind_71 rfl (by decide) (by decide) ?_
          first
            | exact QC_ok (by first | (rw [if_neg (by omega)]; done) | (rw [if_neg (by omega), if_neg (by omega)]; done) | (rw [if_neg (by omega), if_neg (by omega), if_neg (by omega)]; done) | (rw [if_neg (by omega), if_neg (by omega), if_neg (by omega), if_neg (by omega)]; done)) (by rw [hv, hw]; rw [if_neg (by omega)]; rfl) (fun _ _ => eqAt_rf) hR
        · skip
          try simp only [b2_0, b2_n0] at c52
          refine e_throwW (cls := "java/lang/ArithmeticException") (text := "there are no clients") dX8_meanBehind_55 dX8_meanBehind_58 dX8_meanBehind_59 dX8_meanBehind_62 dX8_meanBehind_65 (by decide +kernel) txX8_220 txI_ArithmeticException (by decide +kernel) (by decide +kernel) zatX8_224 rfl (by decide) (by decide) (Nat.le_of_ble_eq_true rfl) (by decide) (by decide) ?_
          first
            | exact QC_no (x := 1) (by first | (rw [if_pos (by omega)]; done) | (rw [if_neg (by omega), if_pos (by omega)]; done) | (rw [if_neg (by omega), if_neg (by omega), if_pos (by omega)]; done) | (rw [if_neg (by omega), if_neg (by omega), if_neg (by omega), if_pos (by omega)]; done)) (by decide) rfl (fun _ _ => eqAt_rf) hR
      · skip
        refine e_aload_n dX8_meanBehind_23 rfl rfl ?_
        refine e_iload dX8_meanBehind_24 rfl ?_
        refine e_aald dX8_meanBehind_26 (show zK h 4 = 100 + 4 from x1) (by decide) (by decide) i0 (by rw [x2]; omega) (x3 i i0 (by omega)) ?_
        refine e_astore dX8_meanBehind_27 (by decide) rfl rfl ?_
        refine e_aload dX8_meanBehind_29 rfl ?_
        refine e_ifnull (tgt := 45) dX8_meanBehind_31 (by decide) (fun c31 => ?_) (fun r31 c31 => ?_)
        · skip
          have z9 := ses_none2 c31
          refine e_iinc dX8_meanBehind_45 (by decide) rfl rfl rfl rfl ?_
          refine e_goto (tgt := 16) dX8_meanBehind_48 (by decide) ?_
          first
            | exact ih _ _ _ _ rfl (by omega) (by omega) (by omega) (by rw [hw, if_pos z9]; split <;> omega) (by rw [hw, if_pos z9] at hv; rw [hw, if_pos z9, sumB_s S i0, hv])
            | exact ih _ _ _ _ rfl (by omega) (by omega) (by omega) (by rw [hw, if_neg z9, if_neg (by omega)]) hv
        · skip
          rw [c31]
          obtain ⟨z9, z8⟩ := ses_some c31
          subst z8
          obtain ⟨hCl, hCh⟩ := hRc i ⟨i0, z9⟩
          have K3 : zK h (nC i) = 2 + 1 := hCl.1
          have hcs := hIC i i0 z9
          obtain ⟨hV, ⟨ed, cp, kn, hK⟩, hC, hWn, hCp, hT, hRr, hRr0⟩ := hRs (S 35 i) ⟨hcs.1, hcs.2⟩
          have c2 := cntB_in S i
          refine e_iload_n dX8_meanBehind_34 rfl rfl ?_
          refine e_aload dX8_meanBehind_35 rfl ?_
          refine e_callV (As := []) (cb := 2) dX8_meanBehind_37 moX1_countBehind mvX1_countBehind mlX8_163 (by decide) rfl K3 rfl (Nat.le_of_ble_eq_true rfl) ⟨by decide, by decide, by decide, by decide⟩ (c_X1_countBehind hl hCh.1 hC hCl) (fun E h1 q => by cases q.1) (fun v h9 q => ?_)
          obtain ⟨e1, e2⟩ := q; cases e1; rw [e2]; clear e2 h9
          refine e_iadd dX8_meanBehind_40 ?_
          refine e_istore_n dX8_meanBehind_41 rfl (by decide) rfl rfl ?_
          refine e_iinc dX8_meanBehind_42 (by decide) rfl rfl rfl rfl ?_
          refine e_iinc dX8_meanBehind_45 (by decide) rfl rfl rfl rfl ?_
          refine e_goto (tgt := 16) dX8_meanBehind_48 (by decide) ?_
          first
            | exact ih _ _ _ _ rfl (by omega) (by omega) (by omega) (by rw [hw, if_pos z9]; split <;> omega) (by rw [hw, if_pos z9] at hv; rw [hw, if_pos z9, sumB_s S i0, hv])
            | exact ih _ _ _ _ rfl (by omega) (by omega) (by omega) (by rw [hw, if_neg z9, if_neg (by omega)]) hv
  exact lp16 7 0 0 0 zX rfl (by omega) (by omega) (by omega) (by split <;> omega) rfl
