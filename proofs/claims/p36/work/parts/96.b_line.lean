set_option maxHeartbeats 4000000 in
set_option maxRecDepth 100000 in
theorem c_X0_applyZ {l : Launch} (hl : l.stackTraces = false) {S : S9} {h : zH} {c : Int} (hR : RCh S h c) (hC : RCo h (S 35 c) (screenAt S (S 35 c))) (c1 : c < 6) (s0 : 0 ≤ S 35 c) (s1 : S 35 c < 4) {b : T6} {p : Int} (p0 : 0 ≤ p) (p1 : p < 96) (hb : okT p b) (hb3 : 3 ≤ b.2.1) (f4 : zf h 104 (nC c + 1) = b.1) (f7 : zf h 107 (nC c + 1) = p) (f8 : zf h 108 (nC c + 1) = b.2.2.2.2.2) (f9 : zf h 109 (nC c + 1) = b.2.2.2.1) (f10 : zf h 110 (nC c + 1) = b.2.2.2.2.1) (hzP : ∀ q, 0 ≤ q → q < 96 → zin (S 40 (96 * c + q))) (hzR : ∀ q, 0 ≤ q → q < 96 → zin (screenAt S (S 35 c) q))  : zC l MX0_apply [zR (some (nC c + 1))] h (fun o h' => o = .inl none ∧ RCh (chgS S c (Pc S c) (Rc S c) b p) h' c ∧ (∀ m, m ≠ nC c + 2 → m ≠ nC c + 3 → eqAt m h h')) := by
  refine zC_of hl rfl rfl (by decide) rfl rfl (Nat.le_of_ble_eq_true rfl) ?_
  obtain ⟨⟨⟨o1, o2, o3⟩, o4, o5, o6⟩, ⟨o7, o8⟩, ⟨o9, o10⟩, o11, o12⟩ := id hR
  have o0 : zK h (nC c + 1) = 1 + 1 := o1
  rcases hb with hb | ⟨-, hkd, hwt, hvl, hcp⟩
  · omega
  have hbb : ∀ y x : Int, b.1 = 99 → 0 ≤ y → y < b.2.2.2.2.1 → 0 ≤ x → x < b.2.2.2.1 → 0 ≤ p + y * 12 + x + b.2.2.2.2.2 ∧ p + y * 12 + x + b.2.2.2.2.2 < 96 := fun y x z y0 y1 x0 x1 => by
    obtain ⟨dx, dy, e1, e2⟩ := hcp z
    omega
  have hzc : ∀ q, 0 ≤ q → q < 96 → (b.1 = 99 → 0 ≤ q + b.2.2.2.2.2 ∧ q + b.2.2.2.2.2 < 96) → zin (colC (Pc S c) (Rc S c) b p q) := fun q g0 g1 g2 => by
    unfold colC
    split
    · rename_i z
      exact hzP _ (g2 z).1 (g2 z).2
    · split
      · exact hzR _ p0 p1
      · exact hzR _ g0 g1
  refine e_aload_n dX0_apply_0 rfl rfl ?_
  refine e_getI dX0_apply_1 flX0_24 rfl o0 f4 (fun r1 => ?_)
  refine e_bipush dX0_apply_4 (by decide) ?_
  refine e_icmp_ne (tgt := 10) dX0_apply_6 (by decide) (by omega) (by omega) (fun c6 => ?_) (fun c6 => ?_)
  · skip
    refine e_aload_n dX0_apply_10 rfl rfl ?_
    refine e_getR dX0_apply_11 flX0_15 rfl o0 o2 ?_
    refine e_iconst dX0_apply_14 ?_
    refine e_aload_n dX0_apply_15 rfl rfl ?_
    refine e_getR dX0_apply_16 flX0_18 rfl o0 o7 ?_
    refine e_iconst dX0_apply_19 ?_
    refine e_bipush dX0_apply_20 (by decide) ?_
    refine e_copyi dX0_apply_22 mlX0_83 tw_acN tw_acS tw_acI o4 o9 (by decide) (by decide) (by decide) (by rw [o5]; decide) (by rw [o10]; decide) (by decide) (by decide) (by decide) ?_
    refine e_iconst dX0_apply_25 ?_
    refine e_istore_n dX0_apply_26 rfl (by decide) rfl rfl ?_
    have lp27 : ∀ (d : Nat) (y : Int) (h1 : zH), (b.2.2.2.2.1 - y).toNat < d → 0 ≤ y → y ≤ b.2.2.2.2.1 → RCh (chgI S c (Pc S c) (Rc S c) b p (y * b.2.2.2.1)) h1 c → (∀ q, 0 ≤ q → q < 96 → za h1 (nC c + 3) q = (Pc S c) q) → RCo h1 (S 35 c) (Rc S c) → (∀ m, m ≠ nC c + 2 → m ≠ nC c + 3 → eqAt m h h1) → AW l MX0_apply (fun o h' => o = .inl none ∧ RCh (chgS S c (Pc S c) (Rc S c) b p) h' c ∧ (∀ m, m ≠ nC c + 2 → m ≠ nC c + 3 → eqAt m h h')) 0 0 27 [zR (some (nC c + 1)), zI y, zX, zX] [] h1 := by
      intro d
      induction d with
      | zero => intro y h1 hd j0 j1 hR1 hP1 hC1 hF1; exact absurd hd (by omega)
      | succ d ih =>
        have ih27 := ih
        intro y h1 hd j0 j1 hR1 hP1 hC1 hF1
        refine e_iload_n dX0_apply_27 rfl rfl ?_
        refine e_aload_n dX0_apply_28 rfl rfl ?_
        refine e_getI dX0_apply_29 flX0_80 rfl (show zK h1 (nC c + 1) = 1 + 1 from (hF1 _ (by omega) (by omega)).1.trans o1) (((hF1 (nC c + 1) (by omega) (by omega)).2.2.1 110).trans f10) (fun r29 => ?_)
        refine e_icmp_ge (tgt := 80) dX0_apply_32 (by decide) (by omega) (by omega) (fun c32 => ?_) (fun c32 => ?_)
        · skip
          refine e_vret dX0_apply_80 rfl (by decide) (by decide) ?_
          have hR8 : RCh (chgS S c (Pc S c) (Rc S c) b p) h1 c := by
            rw [show y = b.2.2.2.2.1 by omega, Int.mul_comm] at hR1
            exact hR1
          exact ⟨rfl, hR8, hF1⟩
        · skip
          refine e_iconst dX0_apply_35 ?_
          refine e_istore_n dX0_apply_36 rfl (by decide) rfl rfl ?_
          have lp37 : ∀ (d : Nat) (x : Int) (h2 : zH), (b.2.2.2.1 - x).toNat < d → 0 ≤ x → x ≤ b.2.2.2.1 → RCh (chgI S c (Pc S c) (Rc S c) b p (y * b.2.2.2.1 + x)) h2 c → (∀ q, 0 ≤ q → q < 96 → za h2 (nC c + 3) q = (Pc S c) q) → RCo h2 (S 35 c) (Rc S c) → (∀ m, m ≠ nC c + 2 → m ≠ nC c + 3 → eqAt m h h2) → AW l MX0_apply (fun o h' => o = .inl none ∧ RCh (chgS S c (Pc S c) (Rc S c) b p) h' c ∧ (∀ m, m ≠ nC c + 2 → m ≠ nC c + 3 → eqAt m h h')) 0 0 37 [zR (some (nC c + 1)), zI y, zI x, zX] [] h2 := by
            intro d
            induction d with
            | zero => intro x h2 hd i0 i1 hR2 hP2 hC2 hF2; exact absurd hd (by omega)
            | succ d ih =>
              have ih37 := ih
              intro x h2 hd i0 i1 hR2 hP2 hC2 hF2
              have yw : 0 ≤ y * b.2.2.2.1 := Int.mul_nonneg j0 (by omega)
              refine e_iload_n dX0_apply_37 rfl rfl ?_
              refine e_aload_n dX0_apply_38 rfl rfl ?_
              refine e_getI dX0_apply_39 flX0_77 rfl (show zK h2 (nC c + 1) = 1 + 1 from (hF2 _ (by omega) (by omega)).1.trans o1) (((hF2 (nC c + 1) (by omega) (by omega)).2.2.1 109).trans f9) (fun r39 => ?_)
              refine e_icmp_ge (tgt := 74) dX0_apply_42 (by decide) (by omega) (by omega) (fun c42 => ?_) (fun c42 => ?_)
              · skip
                refine e_iinc dX0_apply_74 (by decide) rfl rfl rfl rfl ?_
                refine e_goto (tgt := 27) dX0_apply_77 (by decide) ?_
                refine e_mask [true, true, false, false] ?_
                exact ih27 _ _ (by omega) (by omega) (by omega) (by rw [Int.add_mul, Int.one_mul, ← show x = b.2.2.2.1 by omega]; rw [show x = b.2.2.2.1 by omega] at hR2 ⊢; exact hR2) hP2 hC2 hF2
              · skip
                refine e_aload_n dX0_apply_45 rfl rfl ?_
                refine e_getI dX0_apply_46 flX0_35 rfl (show zK h2 (nC c + 1) = 1 + 1 from (hF2 _ (by omega) (by omega)).1.trans o1) (((hF2 (nC c + 1) (by omega) (by omega)).2.2.1 107).trans f7) (fun r46 => ?_)
                refine e_iload_n dX0_apply_49 rfl rfl ?_
                refine e_bipush dX0_apply_50 (by decide) ?_
                refine e_imul dX0_apply_52 ?_
                refine e_iadd dX0_apply_53 ?_
                refine e_iload_n dX0_apply_54 rfl rfl ?_
                refine e_iadd dX0_apply_55 ?_
                refine e_istore_n dX0_apply_56 rfl (by decide) rfl rfl ?_
                refine e_aload_n dX0_apply_57 rfl rfl ?_
                refine e_getR dX0_apply_58 flX0_15 rfl (show zK h2 (nC c + 1) = 1 + 1 from (hF2 _ (by omega) (by omega)).1.trans o1) (((hF2 (nC c + 1) (by omega) (by omega)).2.2.2.2.1 100).trans o2) ?_
                refine e_iload_n dX0_apply_61 rfl rfl ?_
                refine e_aload_n dX0_apply_62 rfl rfl ?_
                refine e_iload_n dX0_apply_63 rfl rfl ?_
                refine e_callV (As := [zI _]) (cb := 1) dX0_apply_64 moX0_colourAfter mvX0_colourAfter mlX0_89 (by decide) rfl (show zK h2 (nC c + 1) = 1 + 1 from (hF2 _ (by omega) (by omega)).1.trans o1) rfl (Nat.le_of_ble_eq_true rfl) ⟨by decide, by decide, by decide, by decide⟩ (c_X0_colourAfter hl (s := S 35 c) ((hF2 (nC c + 1) (by omega) (by omega)).1.trans o1) (((hF2 (nC c + 1) (by omega) (by omega)).2.2.2.2.1 101).trans o3) (((hF2 (nC c + 1) (by omega) (by omega)).2.2.2.2.1 102).trans o7) hR2.2.2.1.1 hR2.2.2.1.2 hP2 hC2 b p (((hF2 (nC c + 1) (by omega) (by omega)).2.2.1 104).trans f4) (((hF2 (nC c + 1) (by omega) (by omega)).2.2.1 108).trans f8) (((hF2 (nC c + 1) (by omega) (by omega)).2.2.1 107).trans f7) p0 p1 (p + y * 12 + x) (by omega) (by omega) (fun z => hbb y x z j0 (by omega) i0 (by omega)) (by omega)) (fun E h1 q => by cases q.1) (fun v h9 q => ?_)
                obtain ⟨e1, e2⟩ := q; cases e1; rw [e2]; clear e2 h9
                
                refine e_iast dX0_apply_67 hR2.1.2.1 (by omega) (by rw [hR2.1.2.2.1]; omega) (hzc (p + y * 12 + x) (by omega) (by omega) (fun z => hbb y x z j0 (by omega) i0 (by omega))) ?_
                refine e_iinc dX0_apply_68 (by decide) rfl rfl rfl rfl ?_
                refine e_goto (tgt := 37) dX0_apply_71 (by decide) ?_
                refine e_mask [true, true, true, false] ?_
                have dq := div_uniq (w := b.2.2.2.1) (x := x) (y := y) i0 (by omega)
                refine ih37 _ _ (by omega) (by omega) (by omega) (by rw [show y * b.2.2.2.1 + (x + 1) = y * b.2.2.2.1 + x + 1 by omega]; exact RCh_chg ⟨p0, p1⟩ (by omega) (by omega) hvl dq.1 dq.2 (by omega) hR2) (fun q q0 q1 => (z3_nn (by omega)).trans (hP2 q q0 q1)) (Cq_sa c1 s0 s1 (by decide) hC2) (fun m m1 m2 => eqAt_tr (hF2 m m1 m2) (eqAt_sa m1))
          exact lp37 14 0 h1 (by omega) (by omega) (by omega) (by rw [Int.add_zero]; exact hR1) hP1 hC1 hF1
    refine lp27 10 0 _ (by omega) (by omega) (by omega) ?_ (fun q q0 q1 => ?_) (RCo_at (eqAt_saw (nSC c1 s0 s1 (by decide) (by decide))) hC) (fun m m1 m2 => eqAt_saw m2)
    · refine RCh_agf (S := S) (by show (if _ then _ else _) = _; rw [if_neg (by omega)]) (fun j j0 j1 => by rw [show (0 : Int) * b.2.2.2.1 = 0 by omega, chgI_0 (by omega)]) ?_
      exact RCh_3 (fun m m1 => eqAt_saw m1) rfl rfl hR
    · show (if nC c + 3 = nC c + 3 then zcp (za h (nC c + 2)) (za h (nC c + 3)) 0 0 96 q else _) = _
      rw [if_pos rfl]
      unfold zcp
      rw [if_pos (by omega), show 0 + (q - 0) = q by omega]
      exact o6 q q0 q1
  · skip
    exfalso; omega
set_option maxHeartbeats 4000000 in
set_option maxRecDepth 100000 in
theorem c_X8_richestServed {l : Launch} (hl : l.stackTraces = false) {S : S9} {h : zH} (hN : IN S) (hTp : RTop S h) (hC : ∀ c, isC S c → RCli S h c) (hA : AF S h (S 2 0)) (u : Int) (hu : zin u)  : zC l MX8_richestServed [zR (some 2), zI u] h (fun o h' => o = .inl (some (zR (cRef (chN S u (S 2 0).toNat)))) ∧ h' = h) := by
  refine zC_of hl rfl rfl (by decide) rfl rfl (Nat.le_of_ble_eq_true rfl) ?_
  obtain ⟨⟨p1, p2, p3, p4, p5⟩, ⟨y1, y2, y3⟩, ⟨x1, x2, x3⟩, v1, v2, v3⟩ := id hTp
  obtain ⟨n1, n2, n3, n4, n5⟩ := id hN
  refine e_null dX8_richestServed_0 ?_
  refine e_astore_n dX8_richestServed_1 rfl (by decide) rfl rfl ?_
  refine e_aload_n dX8_richestServed_2 rfl rfl ?_
  refine e_getR dX8_richestServed_3 flX8_17 rfl (show zK _ 2 = 9 + 1 from p1) p3 ?_
  refine e_astore_n dX8_richestServed_6 rfl (by decide) rfl rfl ?_
  refine e_aload_n dX8_richestServed_7 rfl rfl ?_
  refine e_alen dX8_richestServed_8 (t := 4) x1 x2 ?_
  refine e_istore dX8_richestServed_9 (by decide) rfl rfl ?_
  refine e_iconst dX8_richestServed_11 ?_
  refine e_istore dX8_richestServed_12 (by decide) rfl rfl ?_
  have lp14 : ∀ (d : Nat) (i r : Int), (6 - i).toNat < d → 0 ≤ i → i ≤ 6 → r = chN S u (mn i (S 2 0)).toNat → AW l MX8_richestServed (fun o h' => o = .inl (some (zR (cRef (chN S u (S 2 0).toNat)))) ∧ h' = h) 0 0 14 [zR (some 2), zI u, zR (cRef r), zR (some 4), zI 6, zI i, zX] [] h := by
    intro d
    induction d with
    | zero => intro i r hd i0 i1 hr; exact absurd hd (by omega)
    | succ d ih =>
      have ih14 := ih
      intro i r hd i0 i1 hr
      have hin := chN_in S u (mn i (S 2 0)).toNat
      rw [← hr] at hin
      have hmi := mn_le (a := i) (b := S 2 0)
      refine e_iload dX8_richestServed_14 rfl ?_
      refine e_iload dX8_richestServed_16 rfl ?_
      refine e_icmp_ge (tgt := 82) dX8_richestServed_18 (by decide) (by omega) (by omega) (fun c18 => ?_) (fun c18 => ?_)
      · skip
        refine e_aload_n dX8_richestServed_82 rfl rfl ?_
        refine e_aret dX8_richestServed_83 rfl rfl (by decide) (by decide) ?_
        rw [hr, mn_r (by omega)]
        exact ⟨rfl, rfl⟩
      · skip
        refine e_aload_n dX8_richestServed_21 rfl rfl ?_
        refine e_iload dX8_richestServed_22 rfl ?_
        refine e_aald dX8_richestServed_24 (t := 4) x1 (by decide) (by decide) i0 (by rw [x2]; omega) (x3 i i0 (by omega)) ?_
        refine e_astore dX8_richestServed_25 (by decide) rfl rfl ?_
        refine e_aload dX8_richestServed_27 rfl ?_
        refine e_ifnull (tgt := 76) dX8_richestServed_29 (by decide) (fun c29 => ?_) (fun r29 c29 => ?_)
        · skip
          have z9 := ses_none2 c29
          have ex : chN S u (mn (i + 1) (S 2 0)).toNat = r := by rw [mn_r (by omega), hr, mn_r (by omega)]
          refine e_iinc dX8_richestServed_76 (by decide) rfl rfl rfl rfl ?_
          refine e_goto (tgt := 14) dX8_richestServed_79 (by decide) ?_
          refine e_mask [true, true, true, true, true, true, false] ?_
          first
            | exact ih14 _ r (by omega) (by omega) (by omega) ex.symm
            | (rw [← c58]; exact ih14 _ r (by omega) (by omega) (by omega) ex.symm)
            | (rw [show some (nC i) = cRef i from (if_neg (by omega)).symm]; exact ih14 _ i (by omega) (by omega) (by omega) ex.symm)
        · skip
          obtain ⟨z9, z8⟩ := ses_some c29
          subst z8
          rw [if_pos z9]
          obtain ⟨hCl, hCh⟩ := hC i ⟨i0, z9⟩
          obtain ⟨q1, q2, q3, q4, q5, q6, q7, q8⟩ := id hCl
          obtain ⟨srt, cst, e104, e105, hx⟩ : ∃ srt cst, zf h 104 (nC i + 1) = srt ∧ zf h 105 (nC i + 1) = cst ∧ ((¬ hasN S i ∧ srt = 32) ∨ (hasN S i ∧ srt ≠ 32 ∧ cst = (bstC S i).2.1)) := by
            refine ⟨_, _, rfl, rfl, ?_⟩
            rcases hA i i0 z9 with ⟨f1, f2⟩ | ⟨f1, f2, f3, -⟩
            · exact Or.inl ⟨f1, f2⟩
            · have z := bstC_ok f1
              refine Or.inr ⟨f1, ?_, f3⟩
              rw [f2]
              rcases z.1 with y | y <;> omega
          have ex0 : chN S u (mn (i + 1) (S 2 0)).toNat = if (r < 0 ∨ S 37 r < S 37 i) ∧ hasN S i ∧ (bstC S i).2.1 ≤ u then i else r := by
            rw [mn_l (by omega), show (i + 1).toNat = i.toNat + 1 by omega, chN_s, hr, mn_l (by omega), show ((i.toNat : Nat) : Int) = i by omega]
          have KI : zK h (nC i) = 2 + 1 := q1
          refine e_aload dX8_richestServed_32 rfl ?_
          refine e_getR dX8_richestServed_34 flX8_341 rfl KI q4 ?_
          refine e_getI dX8_richestServed_37 flX8_170 rfl (show zK h (nC i + 1) = 1 + 1 from hCh.1.1.1) e104 (fun r37 => ?_)
          refine e_bipush dX8_richestServed_40 (by decide) ?_
          refine e_icmp_eq (tgt := 76) dX8_richestServed_42 (by decide) (by omega) (by omega) (fun c42 => ?_) (fun c42 => ?_)
          · skip
            have ex : chN S u (mn (i + 1) (S 2 0)).toNat = r := by rw [ex0, if_neg (by omega)]
            refine e_iinc dX8_richestServed_76 (by decide) rfl rfl rfl rfl ?_
            refine e_goto (tgt := 14) dX8_richestServed_79 (by decide) ?_
            refine e_mask [true, true, true, true, true, true, false] ?_
            first
              | exact ih14 _ r (by omega) (by omega) (by omega) ex.symm
              | (rw [← c58]; exact ih14 _ r (by omega) (by omega) (by omega) ex.symm)
              | (rw [show some (nC i) = cRef i from (if_neg (by omega)).symm]; exact ih14 _ i (by omega) (by omega) (by omega) ex.symm)
          · skip
            refine e_aload dX8_richestServed_45 rfl ?_
            refine e_getR dX8_richestServed_47 flX8_341 rfl KI q4 ?_
            refine e_getI dX8_richestServed_50 flX8_176 rfl (show zK h (nC i + 1) = 1 + 1 from hCh.1.1.1) e105 (fun r50 => ?_)
            refine e_iload_n dX8_richestServed_53 rfl rfl ?_
            refine e_icmp_gt (tgt := 76) dX8_richestServed_54 (by decide) (by omega) (by omega) (fun c54 => ?_) (fun c54 => ?_)
            · skip
              have ex : chN S u (mn (i + 1) (S 2 0)).toNat = r := by rw [ex0, if_neg (by omega)]
              refine e_iinc dX8_richestServed_76 (by decide) rfl rfl rfl rfl ?_
              refine e_goto (tgt := 14) dX8_richestServed_79 (by decide) ?_
              refine e_mask [true, true, true, true, true, true, false] ?_
              first
                | exact ih14 _ r (by omega) (by omega) (by omega) ex.symm
                | (rw [← c58]; exact ih14 _ r (by omega) (by omega) (by omega) ex.symm)
                | (rw [show some (nC i) = cRef i from (if_neg (by omega)).symm]; exact ih14 _ i (by omega) (by omega) (by omega) ex.symm)
            · skip
              refine e_aload_n dX8_richestServed_57 rfl rfl ?_
              refine e_ifnull (tgt := 73) dX8_richestServed_58 (by decide) (fun c58 => ?_) (fun r58 c58 => ?_)
              · skip
                have y8 := cRef_none c58
                have ex : chN S u (mn (i + 1) (S 2 0)).toNat = i := by rw [ex0, if_pos (by omega)]
                refine e_aload dX8_richestServed_73 rfl ?_
                refine e_astore_n dX8_richestServed_75 rfl (by decide) rfl rfl ?_
                refine e_iinc dX8_richestServed_76 (by decide) rfl rfl rfl rfl ?_
                refine e_goto (tgt := 14) dX8_richestServed_79 (by decide) ?_
                refine e_mask [true, true, true, true, true, true, false] ?_
                first
                  | exact ih14 _ r (by omega) (by omega) (by omega) ex.symm
                  | (rw [← c58]; exact ih14 _ r (by omega) (by omega) (by omega) ex.symm)
                  | (rw [show some (nC i) = cRef i from (if_neg (by omega)).symm]; exact ih14 _ i (by omega) (by omega) (by omega) ex.symm)
              · skip
                rw [c58]
                obtain ⟨y8, y9⟩ := cRef_some c58
                subst y9
                obtain ⟨hCl2, -⟩ := hC r ⟨y8, by omega⟩
                have KR : zK h (nC r) = 2 + 1 := hCl2.1
                refine e_aload dX8_richestServed_61 rfl ?_
                refine e_getI dX8_richestServed_63 flX8_146 rfl KI q6 (fun r63 => ?_)
                refine e_aload_n dX8_richestServed_66 rfl rfl ?_
                refine e_getI dX8_richestServed_67 flX8_146 rfl KR hCl2.2.2.2.2.2.1 (fun r67 => ?_)
                refine e_icmp_le (tgt := 76) dX8_richestServed_70 (by decide) (by omega) (by omega) (fun c70 => ?_) (fun c70 => ?_)
                · skip
                  have ex : chN S u (mn (i + 1) (S 2 0)).toNat = r := by rw [ex0, if_neg (by omega)]
                  refine e_iinc dX8_richestServed_76 (by decide) rfl rfl rfl rfl ?_
                  refine e_goto (tgt := 14) dX8_richestServed_79 (by decide) ?_
                  refine e_mask [true, true, true, true, true, true, false] ?_
                  first
                    | exact ih14 _ r (by omega) (by omega) (by omega) ex.symm
                    | (rw [← c58]; exact ih14 _ r (by omega) (by omega) (by omega) ex.symm)
                    | (rw [show some (nC i) = cRef i from (if_neg (by omega)).symm]; exact ih14 _ i (by omega) (by omega) (by omega) ex.symm)
                · skip
                  have ex : chN S u (mn (i + 1) (S 2 0)).toNat = i := by rw [ex0, if_pos (by omega)]
                  refine e_aload dX8_richestServed_73 rfl ?_
                  refine e_astore_n dX8_richestServed_75 rfl (by decide) rfl rfl ?_
                  refine e_iinc dX8_richestServed_76 (by decide) rfl rfl rfl rfl ?_
                  refine e_goto (tgt := 14) dX8_richestServed_79 (by decide) ?_
                  refine e_mask [true, true, true, true, true, true, false] ?_
                  first
                    | exact ih14 _ r (by omega) (by omega) (by omega) ex.symm
                    | (rw [← c58]; exact ih14 _ r (by omega) (by omega) (by omega) ex.symm)
                    | (rw [show some (nC i) = cRef i from (if_neg (by omega)).symm]; exact ih14 _ i (by omega) (by omega) (by omega) ex.symm)
  refine lp14 7 0 (-1) (by decide) (by decide) (by decide) ?_
  rw [mn_l n3]
  rfl
