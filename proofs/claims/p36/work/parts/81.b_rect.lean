set_option maxHeartbeats 4000000 in
set_option maxRecDepth 100000 in
theorem c_X0_tryCells {l : Launch} (hl : l.stackTraces = false) {S : S9} {h : zH} {c : Int} (hR : RCh S h c) (hC : RCo h (S 35 c) (screenAt S (S 35 c))) (c1 : c < 6) (s0 : 0 ≤ S 35 c) (s1 : S 35 c < 4) {b : T6} (hB : CBr h (nC c + 1) b) (p : Int) (p0 : 0 ≤ p) (p1 : p < 96) (e7 : zf h 107 (nC c + 1) = p) (hne : S 40 (96 * c + p) ≠ screenAt S (S 35 c) p)  : zC l MX0_tryCells [zR (some (nC c + 1))] h (fun o h' => o = .inl none ∧ CBr h' (nC c + 1) (tr b (114, 2 + run9 (Pc S c) (Rc S c) p, run9 (Pc S c) (Rc S c) p, run9 (Pc S c) (Rc S c) p, 1, 0)) ∧ (∀ m, m ≠ nC c + 1 → eqAt m h h') ∧ RCh S h' c ∧ zf h' 107 (nC c + 1) = zf h 107 (nC c + 1)) := by
  refine zC_of hl rfl rfl (by decide) rfl rfl (Nat.le_of_ble_eq_true rfl) ?_
  obtain ⟨⟨⟨o1, o2, o3⟩, o4, o5, o6⟩, ⟨o7, o8⟩, ⟨o9, o10⟩, o11, o12⟩ := id hR
  have o0 : zK h (nC c + 1) = 1 + 1 := o1
  refine e_bipush dX0_tryCells_0 (by decide) ?_
  refine e_aload_n dX0_tryCells_2 rfl rfl ?_
  refine e_getI dX0_tryCells_3 flX0_35 rfl o0 e7 (fun r3 => ?_)
  refine e_bipush dX0_tryCells_6 (by decide) ?_
  refine e_irem dX0_tryCells_8 ⟨by omega, by omega⟩ (by omega) ⟨by decide, by decide⟩ (by decide) ?_
  refine e_isub dX0_tryCells_9 ?_
  refine e_istore_n dX0_tryCells_10 rfl (by decide) rfl rfl ?_
  refine e_iconst dX0_tryCells_11 ?_
  refine e_istore_n dX0_tryCells_12 rfl (by decide) rfl rfl ?_
  have lp13 : ∀ (d : Nat) (i : Int), (12 - p % 12 - i).toNat < d → 0 ≤ i → i ≤ 12 - p % 12 → (i = 0 → 0 < 12 - p % 12) → run9 (Pc S c) (Rc S c) p = runR (Pc S c) (Rc S c) p (12 - p % 12 - i).toNat → AW l MX0_tryCells (fun o h' => o = .inl none ∧ CBr h' (nC c + 1) (tr b (114, 2 + run9 (Pc S c) (Rc S c) p, run9 (Pc S c) (Rc S c) p, run9 (Pc S c) (Rc S c) p, 1, 0)) ∧ (∀ m, m ≠ nC c + 1 → eqAt m h h') ∧ RCh S h' c ∧ zf h' 107 (nC c + 1) = zf h 107 (nC c + 1)) 0 0 13 [zR (some (nC c + 1)), zI (12 - p % 12), zI i] [] h := by
    intro d
    induction d with
    | zero => intro i hd i0 i1 i2 hi; exact absurd hd (by omega)
    | succ d ih =>
      have ih13 := ih
      intro i hd i0 i1 i2 hi
      have hr1 : i = 0 → S 40 (96 * c + (p + i)) ≠ screenAt S (S 35 c) (p + i) := fun z => by rw [z, Int.add_zero]; exact hne
      refine e_iload_n dX0_tryCells_13 rfl rfl ?_
      refine e_iload_n dX0_tryCells_14 rfl rfl ?_
      refine e_icmp_ge (tgt := 37) dX0_tryCells_15 (by decide) (by omega) (by omega) (fun c15 => ?_) (fun c15 => ?_)
      · skip
        have hr9 : run9 (Pc S c) (Rc S c) p = i := by
          rw [hi]
          first
            | (rw [show (12 - p % 12 - i).toNat = 0 by omega]; show 12 - p % 12 = i; omega)
            | (rw [runR_at i0 (by omega), if_pos (by show S 40 (96 * c + (p + i)) = screenAt S (S 35 c) (p + i); omega)])
        refine e_aload_n dX0_tryCells_37 rfl rfl ?_
        refine e_bipush dX0_tryCells_38 (by decide) ?_
        refine e_iload_n dX0_tryCells_40 rfl rfl ?_
        refine e_iconst dX0_tryCells_41 ?_
        refine e_iload_n dX0_tryCells_42 rfl rfl ?_
        refine e_iadd dX0_tryCells_43 ?_
        refine e_iconst dX0_tryCells_44 ?_
        refine e_iload_n dX0_tryCells_45 rfl rfl ?_
        refine e_iconst dX0_tryCells_46 ?_
        refine e_callV (As := [zI _, zI _, zI _, zI _, zI _, zI _]) (cb := 1) dX0_tryCells_47 moX0_consider mvX0_consider mlX0_70 (by decide) rfl o0 rfl (Nat.le_of_ble_eq_true rfl) ⟨by decide, by decide, by decide, by decide⟩ (c_X0_considerB hl (S := S) o1 hB 114 i (2 + i) 0 i 1 (by decide) ⟨by omega, by omega⟩ ⟨by omega, by omega⟩ (by decide) (by omega) (by decide)) (fun E h1 q => by cases q.1) (fun v h1 q => ?_)
        obtain ⟨e1, hB9, hk9⟩ := q; cases e1
        refine e_vret dX0_tryCells_50 rfl (by decide) (by decide) ?_
        rw [hr9]
        exact ⟨rfl, hB9, hk9.1, hk9.2.1 hR, hk9.2.2.1⟩
      · skip
        refine e_aload_n dX0_tryCells_18 rfl rfl ?_
        refine e_aload_n dX0_tryCells_19 rfl rfl ?_
        refine e_getI dX0_tryCells_20 flX0_35 rfl o0 e7 (fun r20 => ?_)
        refine e_iload_n dX0_tryCells_23 rfl rfl ?_
        refine e_iadd dX0_tryCells_24 ?_
        refine e_callV (As := [zI _]) (cb := 1) dX0_tryCells_25 moX0_isBehind mvX0_isBehind mlX0_38 (by decide) rfl o0 rfl (Nat.le_of_ble_eq_true rfl) ⟨by decide, by decide, by decide, by decide⟩ (c_X0_isBehind hl hR.1 hC (p + i) (by omega) (by omega)) (fun E h1 q => by cases q.1) (fun v h9 q => ?_)
        obtain ⟨e1, e2⟩ := q; cases e1; rw [e2]; clear e2 h9
        refine e_if_eq (tgt := 37) dX0_tryCells_28 (by decide) b2_in (fun c28 => ?_) (fun c28 => ?_)
        · skip
          try simp only [b2_0, b2_n0] at c28
          have hr9 : run9 (Pc S c) (Rc S c) p = i := by
            rw [hi]
            first
              | (rw [show (12 - p % 12 - i).toNat = 0 by omega]; show 12 - p % 12 = i; omega)
              | (rw [runR_at i0 (by omega), if_pos (by show S 40 (96 * c + (p + i)) = screenAt S (S 35 c) (p + i); omega)])
          refine e_aload_n dX0_tryCells_37 rfl rfl ?_
          refine e_bipush dX0_tryCells_38 (by decide) ?_
          refine e_iload_n dX0_tryCells_40 rfl rfl ?_
          refine e_iconst dX0_tryCells_41 ?_
          refine e_iload_n dX0_tryCells_42 rfl rfl ?_
          refine e_iadd dX0_tryCells_43 ?_
          refine e_iconst dX0_tryCells_44 ?_
          refine e_iload_n dX0_tryCells_45 rfl rfl ?_
          refine e_iconst dX0_tryCells_46 ?_
          refine e_callV (As := [zI _, zI _, zI _, zI _, zI _, zI _]) (cb := 1) dX0_tryCells_47 moX0_consider mvX0_consider mlX0_70 (by decide) rfl o0 rfl (Nat.le_of_ble_eq_true rfl) ⟨by decide, by decide, by decide, by decide⟩ (c_X0_considerB hl (S := S) o1 hB 114 i (2 + i) 0 i 1 (by decide) ⟨by omega, by omega⟩ ⟨by omega, by omega⟩ (by decide) (by omega) (by decide)) (fun E h1 q => by cases q.1) (fun v h1 q => ?_)
          obtain ⟨e1, hB9, hk9⟩ := q; cases e1
          refine e_vret dX0_tryCells_50 rfl (by decide) (by decide) ?_
          rw [hr9]
          exact ⟨rfl, hB9, hk9.1, hk9.2.1 hR, hk9.2.2.1⟩
        · skip
          try simp only [b2_0, b2_n0] at c28
          refine e_iinc dX0_tryCells_31 (by decide) rfl rfl rfl rfl ?_
          refine e_goto (tgt := 13) dX0_tryCells_34 (by decide) ?_
          exact ih13 _ (by omega) (by omega) (by omega) (by omega) (by rw [hi, runR_at i0 (by omega), if_neg (by show ¬ S 40 (96 * c + (p + i)) = screenAt S (S 35 c) (p + i); omega)])
  exact lp13 13 0 (by omega) (by omega) (by omega) (by omega) (by unfold run9; rw [show 12 - p % 12 - 0 = 12 - p % 12 by omega])
set_option maxHeartbeats 4000000 in
set_option maxRecDepth 100000 in
theorem c_X0_tryRectangles {l : Launch} (hl : l.stackTraces = false) {S : S9} {h : zH} {c : Int} (hR : RCh S h c) (hC : RCo h (S 35 c) (screenAt S (S 35 c))) (c1 : c < 6) (s0 : 0 ≤ S 35 c) (s1 : S 35 c < 4) {b r : T6} (hB : CBr h (nC c + 1) b) (p : Int) (p0 : 0 ≤ p) (p1 : p < 96) (e7 : zf h 107 (nC c + 1) = p) (ra ca : Int) (hra : -2 ≤ ra ∧ ra ≤ 2) (hca : -2 ≤ ca ∧ ca ≤ 2) (ww hh : Int) (B : Int → Int → T6) (q0 : ra * 12 + ca = 0 → ww = 12 - p % 12 ∧ hh = 8 - p / 12) (q1 : ra * 12 + ca ≠ 0 → (ww ≤ 6 ∧ ww ≤ 12 - p % 12 ∧ ww ≤ 12 - (p % 12 + ca) ∧ (ww = 6 ∨ ww = 12 - p % 12 ∨ ww = 12 - (p % 12 + ca))) ∧ hh ≤ 4 ∧ hh ≤ 8 - p / 12 ∧ hh ≤ 8 - (p / 12 + ra) ∧ (hh = 4 ∨ hh = 8 - p / 12 ∨ hh = 8 - (p / 12 + ra))) (hst : 0 ≤ p / 12 + ra → 0 ≤ p % 12 + ca → stB (Pc S c) (Rc S c) p (ra * 12 + ca) ww hh B b r) (hret : p / 12 + ra < 0 ∨ p % 12 + ca < 0 → r = b)  : zC l MX0_tryRectangles [zR (some (nC c + 1)), zI ra, zI ca] h (fun o h' => o = .inl none ∧ CBr h' (nC c + 1) r ∧ RCh S h' c ∧ zf h' 107 (nC c + 1) = p ∧ (∀ m, m ≠ nC c + 1 → m ≠ nC c + 4 → eqAt m h h')) := by
  refine zC_of hl rfl rfl (by decide) rfl rfl (Nat.le_of_ble_eq_true rfl) ?_
  obtain ⟨⟨⟨o1, o2, o3⟩, o4, o5, o6⟩, ⟨o7, o8⟩, ⟨o9, o10⟩, o11, o12⟩ := id hR
  have o0 : zK h (nC c + 1) = 1 + 1 := o1
  refine e_aload_n dX0_tryRectangles_0 rfl rfl ?_
  refine e_getI dX0_tryRectangles_1 flX0_35 rfl o0 e7 (fun r1 => ?_)
  refine e_bipush dX0_tryRectangles_4 (by decide) ?_
  refine e_irem dX0_tryRectangles_6 ⟨by omega, by omega⟩ (by omega) ⟨by decide, by decide⟩ (by decide) ?_
  refine e_istore_n dX0_tryRectangles_7 rfl (by decide) rfl rfl ?_
  refine e_aload_n dX0_tryRectangles_8 rfl rfl ?_
  refine e_getI dX0_tryRectangles_9 flX0_35 rfl o0 e7 (fun r9 => ?_)
  refine e_bipush dX0_tryRectangles_12 (by decide) ?_
  refine e_idiv dX0_tryRectangles_14 ⟨by omega, by omega⟩ (by omega) ⟨by decide, by decide⟩ (by decide) ?_
  refine e_istore dX0_tryRectangles_15 (by decide) rfl rfl ?_
  refine e_iload dX0_tryRectangles_17 rfl ?_
  refine e_iload_n dX0_tryRectangles_19 rfl rfl ?_
  refine e_iadd dX0_tryRectangles_20 ?_
  refine e_if_lt (tgt := 30) dX0_tryRectangles_21 (by decide) (by omega) (fun c21 => ?_) (fun c21 => ?_)
  · skip
    refine e_vret dX0_tryRectangles_30 rfl (by decide) (by decide) ?_
    rw [hret (by omega)]
    exact ⟨rfl, hB, hR, e7, fun m _ _ => eqAt_rf⟩
  · skip
    refine e_iload_n dX0_tryRectangles_24 rfl rfl ?_
    refine e_iload_n dX0_tryRectangles_25 rfl rfl ?_
    refine e_iadd dX0_tryRectangles_26 ?_
    refine e_if_ge (tgt := 31) dX0_tryRectangles_27 (by decide) (by omega) (fun c27 => ?_) (fun c27 => ?_)
    · skip
      obtain ⟨b0, bf, bc, b1, bn, be⟩ := hst (by omega) (by omega)
      refine e_iload_n dX0_tryRectangles_31 rfl rfl ?_
      refine e_bipush dX0_tryRectangles_32 (by decide) ?_
      refine e_imul dX0_tryRectangles_34 ?_
      refine e_iload_n dX0_tryRectangles_35 rfl rfl ?_
      refine e_iadd dX0_tryRectangles_36 ?_
      refine e_istore dX0_tryRectangles_37 (by decide) rfl rfl ?_
      refine e_bipush dX0_tryRectangles_39 (by decide) ?_
      refine e_iload_n dX0_tryRectangles_41 rfl rfl ?_
      refine e_iload_n dX0_tryRectangles_42 rfl rfl ?_
      refine e_iload_n dX0_tryRectangles_43 rfl rfl ?_
      refine e_iadd dX0_tryRectangles_44 ?_
      refine e_max dX0_tryRectangles_45 mlX0_52 tw_mxS tw_maI tw_mxC (by decide) (by decide) (by decide) (by decide) (by decide) (by omega) (by omega) ?_
      generalize hx1 : (if p % 12 < p % 12 + ca then p % 12 + ca else p % 12) = x1
      have fx1 : (x1 = p % 12 ∧ ca ≤ 0) ∨ (x1 = p % 12 + ca ∧ 0 < ca) := by split at hx1 <;> omega
      refine e_isub dX0_tryRectangles_48 ?_
      refine e_istore dX0_tryRectangles_49 (by decide) rfl rfl ?_
      refine e_bipush dX0_tryRectangles_51 (by decide) ?_
      refine e_iload dX0_tryRectangles_53 rfl ?_
      refine e_iload dX0_tryRectangles_55 rfl ?_
      refine e_iload_n dX0_tryRectangles_57 rfl rfl ?_
      refine e_iadd dX0_tryRectangles_58 ?_
      refine e_max dX0_tryRectangles_59 mlX0_52 tw_mxS tw_maI tw_mxC (by decide) (by decide) (by decide) (by decide) (by decide) (by omega) (by omega) ?_
      generalize hx2 : (if p / 12 < p / 12 + ra then p / 12 + ra else p / 12) = x2
      have fx2 : (x2 = p / 12 ∧ ra ≤ 0) ∨ (x2 = p / 12 + ra ∧ 0 < ra) := by split at hx2 <;> omega
      refine e_isub dX0_tryRectangles_62 ?_
      refine e_istore dX0_tryRectangles_63 (by decide) rfl rfl ?_
      refine e_iload dX0_tryRectangles_65 rfl ?_
      refine e_if_eq (tgt := 87) dX0_tryRectangles_67 (by decide) (by omega) (fun c67 => ?_) (fun c67 => ?_)
      · skip
        try simp only [b2_0, b2_n0] at c67
        refine e_aload_n dX0_tryRectangles_87 rfl rfl ?_
        refine e_getR dX0_tryRectangles_88 flX0_21 rfl o0 o8 ?_
        refine e_iconst dX0_tryRectangles_91 ?_
        refine e_callS (As := [zR _, zI _]) dX0_tryRectangles_92 moJ7_fill_53178 msJ7_fill_53178 mlX0_61 rfl (Nat.le_of_ble_eq_true rfl) ⟨by decide, by decide, by decide, by decide⟩ (c_J7_fill_53178 hl (nC c + 4) 9 0 o11 o12 (by decide) (by decide) (by decide)) (fun E h1 q => by cases q.1) (fun v9 h9 q9 => ?_)
        obtain ⟨e1, f1, f2, f3, f4⟩ := q9; cases e1
        have hR9 : RCh S h9 c := RCh_4 f4 f1 f2 hR
        have hC9 : RCo h9 (S 35 c) (screenAt S (S 35 c)) := RCo_at (f4 _ (nSC c1 s0 s1 (by decide) (by decide))) hC
        have e79 : zf h9 107 (nC c + 1) = p := ((f4 (nC c + 1) (by omega)).2.2.1 107).trans e7
        have hB9 : CBr h9 (nC c + 1) (B 1 1) := by rw [b0]; exact CBr_at (fun i _ => (f4 (nC c + 1) (by omega)).2.2.1 i) hB
        refine e_iconst dX0_tryRectangles_95 ?_
        refine e_istore dX0_tryRectangles_96 (by decide) rfl rfl ?_
        have lp98 : ∀ (d : Nat) (i : Int) (h1 : zH), (ww - i + 1).toNat < d → 1 ≤ i → (i = 1 ∨ i ≤ ww + 1) → RCh S h1 c → RCo h1 (S 35 c) (screenAt S (S 35 c)) → zf h1 107 (nC c + 1) = p → CBr h1 (nC c + 1) (B i 1) → (∀ t, 1 ≤ t → t ≤ hh → za h1 (nC c + 4) t = rcG (Pc S c) (Rc S c) p (ra * 12 + ca) (i - 1) t) → (∀ m, m ≠ nC c + 1 → m ≠ nC c + 4 → eqAt m h h1) → AW l MX0_tryRectangles (fun o h' => o = .inl none ∧ CBr h' (nC c + 1) r ∧ RCh S h' c ∧ zf h' 107 (nC c + 1) = p ∧ (∀ m, m ≠ nC c + 1 → m ≠ nC c + 4 → eqAt m h h')) 0 0 98 [zR (some (nC c + 1)), zI ra, zI ca, zI (p % 12), zI (p / 12), zI (ra * 12 + ca), zI ww, zI hh, zI i, zX, zX, zX, zX] [] h1 := by
          intro d
          induction d with
          | zero => intro i h1 hd i1 i2 hR1 hC1 e71 hB1 hZ1 hF1; exact absurd hd (by omega)
          | succ d ih =>
            have ih98 := ih
            intro i h1 hd i1 i2 hR1 hC1 e71 hB1 hZ1 hF1
            have wbd : ww ≤ 12 ∧ hh ≤ 8 := by
              by_cases y : ra * 12 + ca = 0
              · have := q0 y
                omega
              · have := q1 y
                omega
            refine e_iload dX0_tryRectangles_98 rfl ?_
            refine e_iload dX0_tryRectangles_100 rfl ?_
            refine e_icmp_gt (tgt := 258) dX0_tryRectangles_102 (by decide) (by omega) (by omega) (fun c102 => ?_) (fun c102 => ?_)
            · skip
              refine e_vret dX0_tryRectangles_258 rfl (by decide) (by decide) ?_
              rw [be i i1 (by omega) i2] at hB1
              exact ⟨rfl, hB1, hR1, e71, hF1⟩
            · skip
              refine e_iconst dX0_tryRectangles_105 ?_
              refine e_istore dX0_tryRectangles_106 (by decide) rfl rfl ?_
              refine e_iconst dX0_tryRectangles_108 ?_
              refine e_istore dX0_tryRectangles_109 (by decide) rfl rfl ?_
              have lp111 : ∀ (d : Nat) (j v : Int) (h2 : zH), (hh - j + 1).toNat < d → 1 ≤ j → (j = 1 ∨ j ≤ hh + 1) → v = rcC (Pc S c) (Rc S c) p (ra * 12 + ca) (i - 1) (j - 1) → RCh S h2 c → RCo h2 (S 35 c) (screenAt S (S 35 c)) → zf h2 107 (nC c + 1) = p → CBr h2 (nC c + 1) (B i j) → (∀ t, 1 ≤ t → t ≤ hh → za h2 (nC c + 4) t = rcG (Pc S c) (Rc S c) p (ra * 12 + ca) (if t < j then i else i - 1) t) → (∀ m, m ≠ nC c + 1 → m ≠ nC c + 4 → eqAt m h h2) → AW l MX0_tryRectangles (fun o h' => o = .inl none ∧ CBr h' (nC c + 1) r ∧ RCh S h' c ∧ zf h' 107 (nC c + 1) = p ∧ (∀ m, m ≠ nC c + 1 → m ≠ nC c + 4 → eqAt m h h')) 0 0 111 [zR (some (nC c + 1)), zI ra, zI ca, zI (p % 12), zI (p / 12), zI (ra * 12 + ca), zI ww, zI hh, zI i, zI v, zI j, zX, zX] [] h2 := by
                intro d
                induction d with
                | zero => intro j v h2 hd j1 j2 hv hR2 hC2 e72 hB2 hZ2 hF2; exact absurd hd (by omega)
                | succ d ih =>
                  have ih111 := ih
                  intro j v h2 hd j1 j2 hv hR2 hC2 e72 hB2 hZ2 hF2
                  obtain ⟨⟨⟨r1, r2, r3⟩, r4, r5, r6⟩, ⟨r7, r8⟩, ⟨r9, r10⟩, r11, r12⟩ := id hR2
                  have r0 : zK h2 (nC c + 1) = 1 + 1 := r1
                  obtain ⟨w1, w2, w3⟩ := id hC2
                  refine e_iload dX0_tryRectangles_111 rfl ?_
                  refine e_iload dX0_tryRectangles_113 rfl ?_
                  refine e_icmp_gt (tgt := 252) dX0_tryRectangles_115 (by decide) (by omega) (by omega) (fun c115 => ?_) (fun c115 => ?_)
                  · skip
                    refine e_iinc dX0_tryRectangles_252 (by decide) rfl rfl rfl rfl ?_
                    refine e_goto (tgt := 98) dX0_tryRectangles_255 (by decide) ?_
                    refine e_mask [true, true, true, true, true, true, true, true, true, false, false, false, false] ?_
                    exact ih98 _ _ (by omega) (by omega) (by omega) hR2 hC2 e72 (by rw [← bn i j i1 (by omega) j1 (by omega) j2]; exact hB2) (fun t t0 t1 => (hZ2 t t0 t1).trans (by rw [if_pos (by omega), show i + 1 - 1 = i by omega])) hF2
                  · skip
                    obtain ⟨q, hq⟩ : ∃ q, q = p + (j - 1) * 12 + i - 1 := ⟨_, rfl⟩
                    have wb2 : ww ≤ 12 - p % 12 ∧ hh ≤ 8 - p / 12 := by
                      by_cases y : ra * 12 + ca = 0
                      · have := q0 y
                        omega
                      · have := q1 y
                        omega
                    have qc : ra * 12 + ca ≠ 0 → 0 ≤ q + (ra * 12 + ca) ∧ q + (ra * 12 + ca) < 96 := fun z => by
                      have := q1 z
                      omega
                    have ec := rcC_s (P := (Pc S c)) (R := (Rc S c)) (p := p) (aw := (ra * 12 + ca)) (x := i - 1) (t := j - 1) (by omega)
                    rw [show j - 1 + 1 = j by omega] at ec
                    have eg := rcG_s (P := (Pc S c)) (R := (Rc S c)) (p := p) (aw := (ra * 12 + ca)) (w := i - 1) (t := j) (by omega)
                    rw [show i - 1 + 1 = i by omega] at eg
                    have hG2 := eg.symm
                    have hz2 := hZ2 j j1 (by omega)
                    rw [if_neg (by omega)] at hz2
                    have gb := rcG_in (P := (Pc S c)) (R := (Rc S c)) (p := p) (aw := (ra * 12 + ca)) (w := i) (t := j) (by omega) (by omega) (by omega) (by omega)
                    have gb1 := rcG_in (P := (Pc S c)) (R := (Rc S c)) (p := p) (aw := (ra * 12 + ca)) (w := i - 1) (t := j) (by omega) (by omega) (by omega) (by omega)
                    have cb := rcC_in (P := (Pc S c)) (R := (Rc S c)) (p := p) (aw := (ra * 12 + ca)) (x := i - 1) (t := j) (by omega) (by omega)
                    have exA : ra * 12 + ca = 0 → v + (b2 (screenAt S (S 35 c) p = screenAt S (S 35 c) q) - b2 (S 40 (96 * c + q) = screenAt S (S 35 c) q)) = rcC (Pc S c) (Rc S c) p (ra * 12 + ca) (i - 1) j := fun z => by
                      rw [ec, hv]
                      unfold rcK
                      rw [if_pos z, show p + (j - 1) * 12 + (i - 1) = q by omega]
                      rfl
                    have exB : ¬ ra * 12 + ca = 0 → v + (b2 (S 40 (96 * c + (q + (ra * 12 + ca))) = screenAt S (S 35 c) q) - b2 (S 40 (96 * c + q) = screenAt S (S 35 c) q)) = rcC (Pc S c) (Rc S c) p (ra * 12 + ca) (i - 1) j := fun z => by
                      rw [ec, hv]
                      unfold rcK
                      rw [if_neg z, show p + (j - 1) * 12 + (i - 1) = q by omega]
                      rfl
                    refine e_aload_n dX0_tryRectangles_118 rfl rfl ?_
                    refine e_getI dX0_tryRectangles_119 flX0_35 rfl r0 e72 (fun r119 => ?_)
                    refine e_iload dX0_tryRectangles_122 rfl ?_
                    refine e_iconst dX0_tryRectangles_124 ?_
                    refine e_isub dX0_tryRectangles_125 ?_
                    refine e_bipush dX0_tryRectangles_126 (by decide) ?_
                    refine e_imul dX0_tryRectangles_128 ?_
                    refine e_iadd dX0_tryRectangles_129 ?_
                    refine e_iload dX0_tryRectangles_130 rfl ?_
                    refine e_iadd dX0_tryRectangles_132 ?_
                    refine e_iconst dX0_tryRectangles_133 ?_
                    refine e_isub dX0_tryRectangles_134 ?_
                    refine e_istore dX0_tryRectangles_135 (by decide) rfl rfl ?_
                    have j164 : ∀ (cl : Int), zin cl → v + (b2 (cl = screenAt S (S 35 c) q) - b2 (S 40 (96 * c + q) = screenAt S (S 35 c) q)) = rcC (Pc S c) (Rc S c) p (ra * 12 + ca) (i - 1) j → AW l MX0_tryRectangles (fun o h' => o = .inl none ∧ CBr h' (nC c + 1) r ∧ RCh S h' c ∧ zf h' 107 (nC c + 1) = p ∧ (∀ m, m ≠ nC c + 1 → m ≠ nC c + 4 → eqAt m h h')) 0 0 164 [zR (some (nC c + 1)), zI ra, zI ca, zI (p % 12), zI (p / 12), zI (ra * 12 + ca), zI ww, zI hh, zI i, zI v, zI j, zI q, zX] [zI cl] h2 := by
                      intro cl hcl hcv
                      refine e_istore dX0_tryRectangles_164 (by decide) rfl rfl ?_
                      refine e_iload dX0_tryRectangles_166 rfl ?_
                      refine e_aload_n dX0_tryRectangles_168 rfl rfl ?_
                      refine e_iload dX0_tryRectangles_169 rfl ?_
                      refine e_iload dX0_tryRectangles_171 rfl ?_
                      refine e_callV (As := [zI _, zI _]) (cb := 1) dX0_tryRectangles_173 moX0_gainOf mvX0_gainOf mlX0_67 (by decide) rfl r0 rfl (Nat.le_of_ble_eq_true rfl) ⟨by decide, by decide, by decide, by decide⟩ (c_X0_gainOf hl hR2.1 hC2 q cl (by omega) (by omega) hcl) (fun E h1 q => by cases q.1) (fun v9 h9 q9 => ?_)
                      obtain ⟨e1, e2⟩ := q9; cases e1; rw [e2]; clear e2 h9
                      refine e_iadd dX0_tryRectangles_176 ?_
                      rw [hcv]
                      refine e_istore dX0_tryRectangles_177 (by decide) rfl rfl ?_
                      refine e_aload_n dX0_tryRectangles_179 rfl rfl ?_
                      refine e_getR dX0_tryRectangles_180 flX0_21 rfl r0 r8 ?_
                      refine e_iload dX0_tryRectangles_183 rfl ?_
                      refine e_dup2 dX0_tryRectangles_185 rfl rfl ?_
                      refine e_iald dX0_tryRectangles_186 (show zK h2 (nC c + 4) = 100 from r11) (by omega) (by rw [r12]; omega) hz2 (fun r186 => ?_)
                      refine e_iload dX0_tryRectangles_187 rfl ?_
                      refine e_iadd dX0_tryRectangles_189 ?_
                      rw [hG2]
                      refine e_iast dX0_tryRectangles_190 (show zK h2 (nC c + 4) = 100 from r11) (by omega) (by rw [r12]; omega) (by omega) ?_
                      have hR3 : RCh S (sa h2 (nC c + 4) j (rcG (Pc S c) (Rc S c) p (ra * 12 + ca) i j)) c := RCh_sa (by decide) hR2
                      have hC3 : RCo (sa h2 (nC c + 4) j (rcG (Pc S c) (Rc S c) p (ra * 12 + ca) i j)) (S 35 c) (screenAt S (S 35 c)) := Cq_sa c1 s0 s1 (by decide) hC2
                      have e73 : zf (sa h2 (nC c + 4) j (rcG (Pc S c) (Rc S c) p (ra * 12 + ca) i j)) 107 (nC c + 1) = p := e72
                      have hB3 : CBr (sa h2 (nC c + 4) j (rcG (Pc S c) (Rc S c) p (ra * 12 + ca) i j)) (nC c + 1) (B i j) := CBr_at (fun _ _ => rfl) hB2
                      have hj3 : za (sa h2 (nC c + 4) j (rcG (Pc S c) (Rc S c) p (ra * 12 + ca) i j)) (nC c + 4) j = rcG (Pc S c) (Rc S c) p (ra * 12 + ca) i j := z3_eq
                      have hZ3 : ∀ t, 1 ≤ t → t ≤ hh → za (sa h2 (nC c + 4) j (rcG (Pc S c) (Rc S c) p (ra * 12 + ca) i j)) (nC c + 4) t = rcG (Pc S c) (Rc S c) p (ra * 12 + ca) (if t < j + 1 then i else i - 1) t := fun t t0 t1 => by
                        by_cases z : t = j
                        · rw [z, if_pos (by omega)]; exact z3_eq
                        · refine (z3_ni z).trans ((hZ2 t t0 t1).trans ?_)
                          by_cases y : t < j
                          · rw [if_pos y, if_pos (by omega)]
                          · rw [if_neg y, if_neg (by omega)]
                      have hF3 : ∀ m, m ≠ nC c + 1 → m ≠ nC c + 4 → eqAt m h (sa h2 (nC c + 4) j (rcG (Pc S c) (Rc S c) p (ra * 12 + ca) i j)) := fun m m1 m2 => eqAt_tr (hF2 m m1 m2) (eqAt_sa m2)
                      generalize sa h2 (nC c + 4) j (rcG (Pc S c) (Rc S c) p (ra * 12 + ca) i j) = h3 at hR3 hC3 e73 hB3 hj3 hZ3 hF3 ⊢
                      obtain ⟨⟨⟨u1, u2, u3⟩, u4, u5, u6⟩, ⟨u7, u8⟩, ⟨u9, u10⟩, u11, u12⟩ := id hR3
                      have u0 : zK h3 (nC c + 1) = 1 + 1 := u1
                      refine e_iload dX0_tryRectangles_191 rfl ?_
                      refine e_if_ne (tgt := 219) dX0_tryRectangles_193 (by decide) (by omega) (fun c193 => ?_) (fun c193 => ?_)
                      · skip
                        try simp only [b2_0, b2_n0] at c193
                        refine e_iload dX0_tryRectangles_219 rfl ?_
                        refine e_iconst dX0_tryRectangles_221 ?_
                        refine e_icmp_le (tgt := 246) dX0_tryRectangles_222 (by decide) (by omega) (by omega) (fun c222 => ?_) (fun c222 => ?_)
                        · skip
                          have hBn : CBr h3 (nC c + 1) (B i (j + 1)) := by rw [b1 (by omega) i j (by omega) (by omega) j1 (by omega)]; exact hB3
                          have hRn := hR3
                          have hCn := hC3
                          have e7n := e73
                          have hZn := hZ3
                          have hFn := hF3
                          refine e_iinc dX0_tryRectangles_246 (by decide) rfl rfl rfl rfl ?_
                          refine e_goto (tgt := 111) dX0_tryRectangles_249 (by decide) ?_
                          refine e_mask [true, true, true, true, true, true, true, true, true, true, true, false, false] ?_
                          exact ih111 _ _ _ (by omega) (by omega) (by omega) (by rw [show j + 1 - 1 = j by omega]) hRn hCn e7n hBn hZn hFn
                        · skip
                          refine e_aload_n dX0_tryRectangles_225 rfl rfl ?_
                          refine e_bipush dX0_tryRectangles_226 (by decide) ?_
                          refine e_aload_n dX0_tryRectangles_228 rfl rfl ?_
                          refine e_getR dX0_tryRectangles_229 flX0_21 rfl u0 u8 ?_
                          refine e_iload dX0_tryRectangles_232 rfl ?_
                          refine e_iald dX0_tryRectangles_234 (show zK h3 (nC c + 4) = 100 from u11) (by omega) (by rw [u12]; omega) hj3 (fun r234 => ?_)
                          refine e_bipush dX0_tryRectangles_235 (by decide) ?_
                          refine e_iload dX0_tryRectangles_237 rfl ?_
                          refine e_iload dX0_tryRectangles_239 rfl ?_
                          refine e_iload dX0_tryRectangles_241 rfl ?_
                          refine e_callV (As := [zI _, zI _, zI _, zI _, zI _, zI _]) (cb := 1) dX0_tryRectangles_243 moX0_consider mvX0_consider mlX0_70 (by decide) rfl u0 rfl (Nat.le_of_ble_eq_true rfl) ⟨by decide, by decide, by decide, by decide⟩ (c_X0_considerB hl (S := S) u1 hB3 99 (rcG (Pc S c) (Rc S c) p (ra * 12 + ca) i j) 6 (ra * 12 + ca) i j (by decide) ⟨by omega, by omega⟩ (by decide) (by omega) (by omega) (by omega)) (fun E h1 q => by cases q.1) (fun v9 h9 q9 => ?_)
                          obtain ⟨e1, hB9, hk1, hk2, hk3, -⟩ := q9; cases e1
                          have hBn : CBr h9 (nC c + 1) (B i (j + 1)) := by rw [bc (by omega) i j (by omega) (by omega) j1 (by omega)]; exact hB9
                          have hRn := hk2 hR3
                          have hCn : RCo h9 (S 35 c) (screenAt S (S 35 c)) := RCo_at (hk1 _ (nSC c1 s0 s1 (by decide) (by decide))) hC3
                          have e7n : zf h9 107 (nC c + 1) = p := hk3.trans e73
                          have hZn : ∀ t, 1 ≤ t → t ≤ hh → za h9 (nC c + 4) t = rcG (Pc S c) (Rc S c) p (ra * 12 + ca) (if t < j + 1 then i else i - 1) t := fun t t0 t1 => ((hk1 (nC c + 4) (by omega)).2.2.2.1 t).trans (hZ3 t t0 t1)
                          have hFn : ∀ m, m ≠ nC c + 1 → m ≠ nC c + 4 → eqAt m h h9 := fun m m1 m2 => eqAt_tr (hF3 m m1 m2) (hk1 m m1)
                          refine e_iinc dX0_tryRectangles_246 (by decide) rfl rfl rfl rfl ?_
                          refine e_goto (tgt := 111) dX0_tryRectangles_249 (by decide) ?_
                          refine e_mask [true, true, true, true, true, true, true, true, true, true, true, false, false] ?_
                          exact ih111 _ _ _ (by omega) (by omega) (by omega) (by rw [show j + 1 - 1 = j by omega]) hRn hCn e7n hBn hZn hFn
                      · skip
                        try simp only [b2_0, b2_n0] at c193
                        refine e_aload_n dX0_tryRectangles_196 rfl rfl ?_
                        refine e_bipush dX0_tryRectangles_197 (by decide) ?_
                        refine e_aload_n dX0_tryRectangles_199 rfl rfl ?_
                        refine e_getR dX0_tryRectangles_200 flX0_21 rfl u0 u8 ?_
                        refine e_iload dX0_tryRectangles_203 rfl ?_
                        refine e_iald dX0_tryRectangles_205 (show zK h3 (nC c + 4) = 100 from u11) (by omega) (by rw [u12]; omega) hj3 (fun r205 => ?_)
                        refine e_iconst dX0_tryRectangles_206 ?_
                        refine e_iload dX0_tryRectangles_207 rfl ?_
                        refine e_iload dX0_tryRectangles_209 rfl ?_
                        refine e_iload dX0_tryRectangles_211 rfl ?_
                        refine e_callV (As := [zI _, zI _, zI _, zI _, zI _, zI _]) (cb := 1) dX0_tryRectangles_213 moX0_consider mvX0_consider mlX0_70 (by decide) rfl u0 rfl (Nat.le_of_ble_eq_true rfl) ⟨by decide, by decide, by decide, by decide⟩ (c_X0_considerB hl (S := S) u1 hB3 102 (rcG (Pc S c) (Rc S c) p (ra * 12 + ca) i j) 5 (ra * 12 + ca) i j (by decide) ⟨by omega, by omega⟩ (by decide) (by omega) (by omega) (by omega)) (fun E h1 q => by cases q.1) (fun v9 h9 q9 => ?_)
                        obtain ⟨e1, hB9, hk1, hk2, hk3, -⟩ := q9; cases e1
                        have hBn : CBr h9 (nC c + 1) (B i (j + 1)) := by rw [bf (by omega) i j i1 (by omega) j1 (by omega)]; exact hB9
                        have hRn := hk2 hR3
                        have hCn : RCo h9 (S 35 c) (screenAt S (S 35 c)) := RCo_at (hk1 _ (nSC c1 s0 s1 (by decide) (by decide))) hC3
                        have e7n : zf h9 107 (nC c + 1) = p := hk3.trans e73
                        have hZn : ∀ t, 1 ≤ t → t ≤ hh → za h9 (nC c + 4) t = rcG (Pc S c) (Rc S c) p (ra * 12 + ca) (if t < j + 1 then i else i - 1) t := fun t t0 t1 => ((hk1 (nC c + 4) (by omega)).2.2.2.1 t).trans (hZ3 t t0 t1)
                        have hFn : ∀ m, m ≠ nC c + 1 → m ≠ nC c + 4 → eqAt m h h9 := fun m m1 m2 => eqAt_tr (hF3 m m1 m2) (hk1 m m1)
                        refine e_goto (tgt := 246) dX0_tryRectangles_216 (by decide) ?_
                        refine e_iinc dX0_tryRectangles_246 (by decide) rfl rfl rfl rfl ?_
                        refine e_goto (tgt := 111) dX0_tryRectangles_249 (by decide) ?_
                        refine e_mask [true, true, true, true, true, true, true, true, true, true, true, false, false] ?_
                        exact ih111 _ _ _ (by omega) (by omega) (by omega) (by rw [show j + 1 - 1 = j by omega]) hRn hCn e7n hBn hZn hFn
                    rw [← hq]
                    refine e_iload dX0_tryRectangles_137 rfl ?_
                    refine e_if_ne (tgt := 154) dX0_tryRectangles_139 (by decide) (by omega) (fun c139 => ?_) (fun c139 => ?_)
                    · skip
                      try simp only [b2_0, b2_n0] at c139
                      refine e_aload_n dX0_tryRectangles_154 rfl rfl ?_
                      refine e_getR dX0_tryRectangles_155 flX0_15 rfl r0 r2 ?_
                      refine e_iload dX0_tryRectangles_158 rfl ?_
                      refine e_iload dX0_tryRectangles_160 rfl ?_
                      refine e_iadd dX0_tryRectangles_162 ?_
                      refine e_iald dX0_tryRectangles_163 (show zK h2 (nC c + 2) = 100 from r4) (qc c139).1 (by rw [r5]; exact (qc c139).2) (r6 (q + (ra * 12 + ca)) (qc c139).1 (qc c139).2) (fun r163 => ?_)
                      first
                        | exact j164 _ r150 (exA c139)
                        | exact j164 _ r163 (exB c139)
                    · skip
                      try simp only [b2_0, b2_n0] at c139
                      refine e_aload_n dX0_tryRectangles_142 rfl rfl ?_
                      refine e_getR dX0_tryRectangles_143 flX0_9 rfl r0 r3 ?_
                      refine e_aload_n dX0_tryRectangles_146 rfl rfl ?_
                      refine e_getI dX0_tryRectangles_147 flX0_35 rfl r0 e72 (fun r147 => ?_)
                      refine e_iald dX0_tryRectangles_150 (show zK h2 (nS (S 35 c) + 4) = 100 from w1) (by omega) (by rw [w2]; omega) (w3 p (by omega) (by omega)) (fun r150 => ?_)
                      refine e_goto (tgt := 164) dX0_tryRectangles_151 (by decide) ?_
                      first
                        | exact j164 _ r150 (exA c139)
                        | exact j164 _ r163 (exB c139)
              exact lp111 10 1 0 h1 (by omega) (by omega) (Or.inl rfl) (by rw [show (1 : Int) - 1 = 0 by omega, rcC_0]) hR1 hC1 e71 hB1 (fun t t0 t1 => by rw [if_neg (by omega)]; exact hZ1 t t0 t1) hF1
        first
          | (have y := q0 c67; rw [show 12 - x1 = ww by omega, show 8 - x2 = hh by omega]; exact lp98 14 1 _ (by omega) (by omega) (Or.inl rfl) hR9 hC9 e79 hB9 (fun t t0 t1 => (f3 t (by omega) (by omega)).trans rfl) (fun m m1 m2 => f4 m m2); done)
          | (have y := q1 c67; rw [show x3 = ww by omega, show x4 = hh by omega]; exact lp98 14 1 _ (by omega) (by omega) (Or.inl rfl) hR9 hC9 e79 hB9 (fun t t0 t1 => (f3 t (by omega) (by omega)).trans rfl) (fun m m1 m2 => f4 m m2); done)
      · skip
        try simp only [b2_0, b2_n0] at c67
        refine e_iload dX0_tryRectangles_70 rfl ?_
        refine e_bipush dX0_tryRectangles_72 (by decide) ?_
        refine e_min dX0_tryRectangles_74 mlX0_58 tw_mnS tw_maI tw_mnC (by decide) (by decide) (by decide) (by decide) (by decide) (by omega) (by omega) ?_
        generalize hx3 : (if (6 : Int) < 12 - x1 then 6 else 12 - x1) = x3
        have fx3 : (x3 = 6 ∧ 6 < 12 - x1) ∨ (x3 = 12 - x1 ∧ 12 - x1 ≤ 6) := by split at hx3 <;> omega
        refine e_istore dX0_tryRectangles_77 (by decide) rfl rfl ?_
        refine e_iload dX0_tryRectangles_79 rfl ?_
        refine e_iconst dX0_tryRectangles_81 ?_
        refine e_min dX0_tryRectangles_82 mlX0_58 tw_mnS tw_maI tw_mnC (by decide) (by decide) (by decide) (by decide) (by decide) (by omega) (by omega) ?_
        generalize hx4 : (if (4 : Int) < 8 - x2 then 4 else 8 - x2) = x4
        have fx4 : (x4 = 4 ∧ 4 < 8 - x2) ∨ (x4 = 8 - x2 ∧ 8 - x2 ≤ 4) := by split at hx4 <;> omega
        refine e_istore dX0_tryRectangles_85 (by decide) rfl rfl ?_
        refine e_aload_n dX0_tryRectangles_87 rfl rfl ?_
        refine e_getR dX0_tryRectangles_88 flX0_21 rfl o0 o8 ?_
        refine e_iconst dX0_tryRectangles_91 ?_
        refine e_callS (As := [zR _, zI _]) dX0_tryRectangles_92 moJ7_fill_53178 msJ7_fill_53178 mlX0_61 rfl (Nat.le_of_ble_eq_true rfl) ⟨by decide, by decide, by decide, by decide⟩ (c_J7_fill_53178 hl (nC c + 4) 9 0 o11 o12 (by decide) (by decide) (by decide)) (fun E h1 q => by cases q.1) (fun v9 h9 q9 => ?_)
        obtain ⟨e1, f1, f2, f3, f4⟩ := q9; cases e1
        have hR9 : RCh S h9 c := RCh_4 f4 f1 f2 hR
        have hC9 : RCo h9 (S 35 c) (screenAt S (S 35 c)) := RCo_at (f4 _ (nSC c1 s0 s1 (by decide) (by decide))) hC
        have e79 : zf h9 107 (nC c + 1) = p := ((f4 (nC c + 1) (by omega)).2.2.1 107).trans e7
        have hB9 : CBr h9 (nC c + 1) (B 1 1) := by rw [b0]; exact CBr_at (fun i _ => (f4 (nC c + 1) (by omega)).2.2.1 i) hB
        refine e_iconst dX0_tryRectangles_95 ?_
        refine e_istore dX0_tryRectangles_96 (by decide) rfl rfl ?_
        have lp98 : ∀ (d : Nat) (i : Int) (h1 : zH), (ww - i + 1).toNat < d → 1 ≤ i → (i = 1 ∨ i ≤ ww + 1) → RCh S h1 c → RCo h1 (S 35 c) (screenAt S (S 35 c)) → zf h1 107 (nC c + 1) = p → CBr h1 (nC c + 1) (B i 1) → (∀ t, 1 ≤ t → t ≤ hh → za h1 (nC c + 4) t = rcG (Pc S c) (Rc S c) p (ra * 12 + ca) (i - 1) t) → (∀ m, m ≠ nC c + 1 → m ≠ nC c + 4 → eqAt m h h1) → AW l MX0_tryRectangles (fun o h' => o = .inl none ∧ CBr h' (nC c + 1) r ∧ RCh S h' c ∧ zf h' 107 (nC c + 1) = p ∧ (∀ m, m ≠ nC c + 1 → m ≠ nC c + 4 → eqAt m h h')) 0 0 98 [zR (some (nC c + 1)), zI ra, zI ca, zI (p % 12), zI (p / 12), zI (ra * 12 + ca), zI ww, zI hh, zI i, zX, zX, zX, zX] [] h1 := by
          intro d
          induction d with
          | zero => intro i h1 hd i1 i2 hR1 hC1 e71 hB1 hZ1 hF1; exact absurd hd (by omega)
          | succ d ih =>
            have ih98 := ih
            intro i h1 hd i1 i2 hR1 hC1 e71 hB1 hZ1 hF1
            have wbd : ww ≤ 12 ∧ hh ≤ 8 := by
              by_cases y : ra * 12 + ca = 0
              · have := q0 y
                omega
              · have := q1 y
                omega
            refine e_iload dX0_tryRectangles_98 rfl ?_
            refine e_iload dX0_tryRectangles_100 rfl ?_
            refine e_icmp_gt (tgt := 258) dX0_tryRectangles_102 (by decide) (by omega) (by omega) (fun c102 => ?_) (fun c102 => ?_)
            · skip
              refine e_vret dX0_tryRectangles_258 rfl (by decide) (by decide) ?_
              rw [be i i1 (by omega) i2] at hB1
              exact ⟨rfl, hB1, hR1, e71, hF1⟩
            · skip
              refine e_iconst dX0_tryRectangles_105 ?_
              refine e_istore dX0_tryRectangles_106 (by decide) rfl rfl ?_
              refine e_iconst dX0_tryRectangles_108 ?_
              refine e_istore dX0_tryRectangles_109 (by decide) rfl rfl ?_
              have lp111 : ∀ (d : Nat) (j v : Int) (h2 : zH), (hh - j + 1).toNat < d → 1 ≤ j → (j = 1 ∨ j ≤ hh + 1) → v = rcC (Pc S c) (Rc S c) p (ra * 12 + ca) (i - 1) (j - 1) → RCh S h2 c → RCo h2 (S 35 c) (screenAt S (S 35 c)) → zf h2 107 (nC c + 1) = p → CBr h2 (nC c + 1) (B i j) → (∀ t, 1 ≤ t → t ≤ hh → za h2 (nC c + 4) t = rcG (Pc S c) (Rc S c) p (ra * 12 + ca) (if t < j then i else i - 1) t) → (∀ m, m ≠ nC c + 1 → m ≠ nC c + 4 → eqAt m h h2) → AW l MX0_tryRectangles (fun o h' => o = .inl none ∧ CBr h' (nC c + 1) r ∧ RCh S h' c ∧ zf h' 107 (nC c + 1) = p ∧ (∀ m, m ≠ nC c + 1 → m ≠ nC c + 4 → eqAt m h h')) 0 0 111 [zR (some (nC c + 1)), zI ra, zI ca, zI (p % 12), zI (p / 12), zI (ra * 12 + ca), zI ww, zI hh, zI i, zI v, zI j, zX, zX] [] h2 := by
                intro d
                induction d with
                | zero => intro j v h2 hd j1 j2 hv hR2 hC2 e72 hB2 hZ2 hF2; exact absurd hd (by omega)
                | succ d ih =>
                  have ih111 := ih
                  intro j v h2 hd j1 j2 hv hR2 hC2 e72 hB2 hZ2 hF2
                  obtain ⟨⟨⟨r1, r2, r3⟩, r4, r5, r6⟩, ⟨r7, r8⟩, ⟨r9, r10⟩, r11, r12⟩ := id hR2
                  have r0 : zK h2 (nC c + 1) = 1 + 1 := r1
                  obtain ⟨w1, w2, w3⟩ := id hC2
                  refine e_iload dX0_tryRectangles_111 rfl ?_
                  refine e_iload dX0_tryRectangles_113 rfl ?_
                  refine e_icmp_gt (tgt := 252) dX0_tryRectangles_115 (by decide) (by omega) (by omega) (fun c115 => ?_) (fun c115 => ?_)
                  · skip
                    refine e_iinc dX0_tryRectangles_252 (by decide) rfl rfl rfl rfl ?_
                    refine e_goto (tgt := 98) dX0_tryRectangles_255 (by decide) ?_
                    refine e_mask [true, true, true, true, true, true, true, true, true, false, false, false, false] ?_
                    exact ih98 _ _ (by omega) (by omega) (by omega) hR2 hC2 e72 (by rw [← bn i j i1 (by omega) j1 (by omega) j2]; exact hB2) (fun t t0 t1 => (hZ2 t t0 t1).trans (by rw [if_pos (by omega), show i + 1 - 1 = i by omega])) hF2
                  · skip
                    obtain ⟨q, hq⟩ : ∃ q, q = p + (j - 1) * 12 + i - 1 := ⟨_, rfl⟩
                    have wb2 : ww ≤ 12 - p % 12 ∧ hh ≤ 8 - p / 12 := by
                      by_cases y : ra * 12 + ca = 0
                      · have := q0 y
                        omega
                      · have := q1 y
                        omega
                    have qc : ra * 12 + ca ≠ 0 → 0 ≤ q + (ra * 12 + ca) ∧ q + (ra * 12 + ca) < 96 := fun z => by
                      have := q1 z
                      omega
                    have ec := rcC_s (P := (Pc S c)) (R := (Rc S c)) (p := p) (aw := (ra * 12 + ca)) (x := i - 1) (t := j - 1) (by omega)
                    rw [show j - 1 + 1 = j by omega] at ec
                    have eg := rcG_s (P := (Pc S c)) (R := (Rc S c)) (p := p) (aw := (ra * 12 + ca)) (w := i - 1) (t := j) (by omega)
                    rw [show i - 1 + 1 = i by omega] at eg
                    have hG2 := eg.symm
                    have hz2 := hZ2 j j1 (by omega)
                    rw [if_neg (by omega)] at hz2
                    have gb := rcG_in (P := (Pc S c)) (R := (Rc S c)) (p := p) (aw := (ra * 12 + ca)) (w := i) (t := j) (by omega) (by omega) (by omega) (by omega)
                    have gb1 := rcG_in (P := (Pc S c)) (R := (Rc S c)) (p := p) (aw := (ra * 12 + ca)) (w := i - 1) (t := j) (by omega) (by omega) (by omega) (by omega)
                    have cb := rcC_in (P := (Pc S c)) (R := (Rc S c)) (p := p) (aw := (ra * 12 + ca)) (x := i - 1) (t := j) (by omega) (by omega)
                    have exA : ra * 12 + ca = 0 → v + (b2 (screenAt S (S 35 c) p = screenAt S (S 35 c) q) - b2 (S 40 (96 * c + q) = screenAt S (S 35 c) q)) = rcC (Pc S c) (Rc S c) p (ra * 12 + ca) (i - 1) j := fun z => by
                      rw [ec, hv]
                      unfold rcK
                      rw [if_pos z, show p + (j - 1) * 12 + (i - 1) = q by omega]
                      rfl
                    have exB : ¬ ra * 12 + ca = 0 → v + (b2 (S 40 (96 * c + (q + (ra * 12 + ca))) = screenAt S (S 35 c) q) - b2 (S 40 (96 * c + q) = screenAt S (S 35 c) q)) = rcC (Pc S c) (Rc S c) p (ra * 12 + ca) (i - 1) j := fun z => by
                      rw [ec, hv]
                      unfold rcK
                      rw [if_neg z, show p + (j - 1) * 12 + (i - 1) = q by omega]
                      rfl
                    refine e_aload_n dX0_tryRectangles_118 rfl rfl ?_
                    refine e_getI dX0_tryRectangles_119 flX0_35 rfl r0 e72 (fun r119 => ?_)
                    refine e_iload dX0_tryRectangles_122 rfl ?_
                    refine e_iconst dX0_tryRectangles_124 ?_
                    refine e_isub dX0_tryRectangles_125 ?_
                    refine e_bipush dX0_tryRectangles_126 (by decide) ?_
                    refine e_imul dX0_tryRectangles_128 ?_
                    refine e_iadd dX0_tryRectangles_129 ?_
                    refine e_iload dX0_tryRectangles_130 rfl ?_
                    refine e_iadd dX0_tryRectangles_132 ?_
                    refine e_iconst dX0_tryRectangles_133 ?_
                    refine e_isub dX0_tryRectangles_134 ?_
                    refine e_istore dX0_tryRectangles_135 (by decide) rfl rfl ?_
                    have j164 : ∀ (cl : Int), zin cl → v + (b2 (cl = screenAt S (S 35 c) q) - b2 (S 40 (96 * c + q) = screenAt S (S 35 c) q)) = rcC (Pc S c) (Rc S c) p (ra * 12 + ca) (i - 1) j → AW l MX0_tryRectangles (fun o h' => o = .inl none ∧ CBr h' (nC c + 1) r ∧ RCh S h' c ∧ zf h' 107 (nC c + 1) = p ∧ (∀ m, m ≠ nC c + 1 → m ≠ nC c + 4 → eqAt m h h')) 0 0 164 [zR (some (nC c + 1)), zI ra, zI ca, zI (p % 12), zI (p / 12), zI (ra * 12 + ca), zI ww, zI hh, zI i, zI v, zI j, zI q, zX] [zI cl] h2 := by
                      intro cl hcl hcv
                      refine e_istore dX0_tryRectangles_164 (by decide) rfl rfl ?_
                      refine e_iload dX0_tryRectangles_166 rfl ?_
                      refine e_aload_n dX0_tryRectangles_168 rfl rfl ?_
                      refine e_iload dX0_tryRectangles_169 rfl ?_
                      refine e_iload dX0_tryRectangles_171 rfl ?_
                      refine e_callV (As := [zI _, zI _]) (cb := 1) dX0_tryRectangles_173 moX0_gainOf mvX0_gainOf mlX0_67 (by decide) rfl r0 rfl (Nat.le_of_ble_eq_true rfl) ⟨by decide, by decide, by decide, by decide⟩ (c_X0_gainOf hl hR2.1 hC2 q cl (by omega) (by omega) hcl) (fun E h1 q => by cases q.1) (fun v9 h9 q9 => ?_)
                      obtain ⟨e1, e2⟩ := q9; cases e1; rw [e2]; clear e2 h9
                      refine e_iadd dX0_tryRectangles_176 ?_
                      rw [hcv]
                      refine e_istore dX0_tryRectangles_177 (by decide) rfl rfl ?_
                      refine e_aload_n dX0_tryRectangles_179 rfl rfl ?_
                      refine e_getR dX0_tryRectangles_180 flX0_21 rfl r0 r8 ?_
                      refine e_iload dX0_tryRectangles_183 rfl ?_
                      refine e_dup2 dX0_tryRectangles_185 rfl rfl ?_
                      refine e_iald dX0_tryRectangles_186 (show zK h2 (nC c + 4) = 100 from r11) (by omega) (by rw [r12]; omega) hz2 (fun r186 => ?_)
                      refine e_iload dX0_tryRectangles_187 rfl ?_
                      refine e_iadd dX0_tryRectangles_189 ?_
                      rw [hG2]
                      refine e_iast dX0_tryRectangles_190 (show zK h2 (nC c + 4) = 100 from r11) (by omega) (by rw [r12]; omega) (by omega) ?_
                      have hR3 : RCh S (sa h2 (nC c + 4) j (rcG (Pc S c) (Rc S c) p (ra * 12 + ca) i j)) c := RCh_sa (by decide) hR2
                      have hC3 : RCo (sa h2 (nC c + 4) j (rcG (Pc S c) (Rc S c) p (ra * 12 + ca) i j)) (S 35 c) (screenAt S (S 35 c)) := Cq_sa c1 s0 s1 (by decide) hC2
                      have e73 : zf (sa h2 (nC c + 4) j (rcG (Pc S c) (Rc S c) p (ra * 12 + ca) i j)) 107 (nC c + 1) = p := e72
                      have hB3 : CBr (sa h2 (nC c + 4) j (rcG (Pc S c) (Rc S c) p (ra * 12 + ca) i j)) (nC c + 1) (B i j) := CBr_at (fun _ _ => rfl) hB2
                      have hj3 : za (sa h2 (nC c + 4) j (rcG (Pc S c) (Rc S c) p (ra * 12 + ca) i j)) (nC c + 4) j = rcG (Pc S c) (Rc S c) p (ra * 12 + ca) i j := z3_eq
                      have hZ3 : ∀ t, 1 ≤ t → t ≤ hh → za (sa h2 (nC c + 4) j (rcG (Pc S c) (Rc S c) p (ra * 12 + ca) i j)) (nC c + 4) t = rcG (Pc S c) (Rc S c) p (ra * 12 + ca) (if t < j + 1 then i else i - 1) t := fun t t0 t1 => by
                        by_cases z : t = j
                        · rw [z, if_pos (by omega)]; exact z3_eq
                        · refine (z3_ni z).trans ((hZ2 t t0 t1).trans ?_)
                          by_cases y : t < j
                          · rw [if_pos y, if_pos (by omega)]
                          · rw [if_neg y, if_neg (by omega)]
                      have hF3 : ∀ m, m ≠ nC c + 1 → m ≠ nC c + 4 → eqAt m h (sa h2 (nC c + 4) j (rcG (Pc S c) (Rc S c) p (ra * 12 + ca) i j)) := fun m m1 m2 => eqAt_tr (hF2 m m1 m2) (eqAt_sa m2)
                      generalize sa h2 (nC c + 4) j (rcG (Pc S c) (Rc S c) p (ra * 12 + ca) i j) = h3 at hR3 hC3 e73 hB3 hj3 hZ3 hF3 ⊢
                      obtain ⟨⟨⟨u1, u2, u3⟩, u4, u5, u6⟩, ⟨u7, u8⟩, ⟨u9, u10⟩, u11, u12⟩ := id hR3
                      have u0 : zK h3 (nC c + 1) = 1 + 1 := u1
                      refine e_iload dX0_tryRectangles_191 rfl ?_
                      refine e_if_ne (tgt := 219) dX0_tryRectangles_193 (by decide) (by omega) (fun c193 => ?_) (fun c193 => ?_)
                      · skip
                        try simp only [b2_0, b2_n0] at c193
                        refine e_iload dX0_tryRectangles_219 rfl ?_
                        refine e_iconst dX0_tryRectangles_221 ?_
                        refine e_icmp_le (tgt := 246) dX0_tryRectangles_222 (by decide) (by omega) (by omega) (fun c222 => ?_) (fun c222 => ?_)
                        · skip
                          have hBn : CBr h3 (nC c + 1) (B i (j + 1)) := by rw [b1 (by omega) i j (by omega) (by omega) j1 (by omega)]; exact hB3
                          have hRn := hR3
                          have hCn := hC3
                          have e7n := e73
                          have hZn := hZ3
                          have hFn := hF3
                          refine e_iinc dX0_tryRectangles_246 (by decide) rfl rfl rfl rfl ?_
                          refine e_goto (tgt := 111) dX0_tryRectangles_249 (by decide) ?_
                          refine e_mask [true, true, true, true, true, true, true, true, true, true, true, false, false] ?_
                          exact ih111 _ _ _ (by omega) (by omega) (by omega) (by rw [show j + 1 - 1 = j by omega]) hRn hCn e7n hBn hZn hFn
                        · skip
                          refine e_aload_n dX0_tryRectangles_225 rfl rfl ?_
                          refine e_bipush dX0_tryRectangles_226 (by decide) ?_
                          refine e_aload_n dX0_tryRectangles_228 rfl rfl ?_
                          refine e_getR dX0_tryRectangles_229 flX0_21 rfl u0 u8 ?_
                          refine e_iload dX0_tryRectangles_232 rfl ?_
                          refine e_iald dX0_tryRectangles_234 (show zK h3 (nC c + 4) = 100 from u11) (by omega) (by rw [u12]; omega) hj3 (fun r234 => ?_)
                          refine e_bipush dX0_tryRectangles_235 (by decide) ?_
                          refine e_iload dX0_tryRectangles_237 rfl ?_
                          refine e_iload dX0_tryRectangles_239 rfl ?_
                          refine e_iload dX0_tryRectangles_241 rfl ?_
                          refine e_callV (As := [zI _, zI _, zI _, zI _, zI _, zI _]) (cb := 1) dX0_tryRectangles_243 moX0_consider mvX0_consider mlX0_70 (by decide) rfl u0 rfl (Nat.le_of_ble_eq_true rfl) ⟨by decide, by decide, by decide, by decide⟩ (c_X0_considerB hl (S := S) u1 hB3 99 (rcG (Pc S c) (Rc S c) p (ra * 12 + ca) i j) 6 (ra * 12 + ca) i j (by decide) ⟨by omega, by omega⟩ (by decide) (by omega) (by omega) (by omega)) (fun E h1 q => by cases q.1) (fun v9 h9 q9 => ?_)
                          obtain ⟨e1, hB9, hk1, hk2, hk3, -⟩ := q9; cases e1
                          have hBn : CBr h9 (nC c + 1) (B i (j + 1)) := by rw [bc (by omega) i j (by omega) (by omega) j1 (by omega)]; exact hB9
                          have hRn := hk2 hR3
                          have hCn : RCo h9 (S 35 c) (screenAt S (S 35 c)) := RCo_at (hk1 _ (nSC c1 s0 s1 (by decide) (by decide))) hC3
                          have e7n : zf h9 107 (nC c + 1) = p := hk3.trans e73
                          have hZn : ∀ t, 1 ≤ t → t ≤ hh → za h9 (nC c + 4) t = rcG (Pc S c) (Rc S c) p (ra * 12 + ca) (if t < j + 1 then i else i - 1) t := fun t t0 t1 => ((hk1 (nC c + 4) (by omega)).2.2.2.1 t).trans (hZ3 t t0 t1)
                          have hFn : ∀ m, m ≠ nC c + 1 → m ≠ nC c + 4 → eqAt m h h9 := fun m m1 m2 => eqAt_tr (hF3 m m1 m2) (hk1 m m1)
                          refine e_iinc dX0_tryRectangles_246 (by decide) rfl rfl rfl rfl ?_
                          refine e_goto (tgt := 111) dX0_tryRectangles_249 (by decide) ?_
                          refine e_mask [true, true, true, true, true, true, true, true, true, true, true, false, false] ?_
                          exact ih111 _ _ _ (by omega) (by omega) (by omega) (by rw [show j + 1 - 1 = j by omega]) hRn hCn e7n hBn hZn hFn
                      · skip
                        try simp only [b2_0, b2_n0] at c193
                        refine e_aload_n dX0_tryRectangles_196 rfl rfl ?_
                        refine e_bipush dX0_tryRectangles_197 (by decide) ?_
                        refine e_aload_n dX0_tryRectangles_199 rfl rfl ?_
                        refine e_getR dX0_tryRectangles_200 flX0_21 rfl u0 u8 ?_
                        refine e_iload dX0_tryRectangles_203 rfl ?_
                        refine e_iald dX0_tryRectangles_205 (show zK h3 (nC c + 4) = 100 from u11) (by omega) (by rw [u12]; omega) hj3 (fun r205 => ?_)
                        refine e_iconst dX0_tryRectangles_206 ?_
                        refine e_iload dX0_tryRectangles_207 rfl ?_
                        refine e_iload dX0_tryRectangles_209 rfl ?_
                        refine e_iload dX0_tryRectangles_211 rfl ?_
                        refine e_callV (As := [zI _, zI _, zI _, zI _, zI _, zI _]) (cb := 1) dX0_tryRectangles_213 moX0_consider mvX0_consider mlX0_70 (by decide) rfl u0 rfl (Nat.le_of_ble_eq_true rfl) ⟨by decide, by decide, by decide, by decide⟩ (c_X0_considerB hl (S := S) u1 hB3 102 (rcG (Pc S c) (Rc S c) p (ra * 12 + ca) i j) 5 (ra * 12 + ca) i j (by decide) ⟨by omega, by omega⟩ (by decide) (by omega) (by omega) (by omega)) (fun E h1 q => by cases q.1) (fun v9 h9 q9 => ?_)
                        obtain ⟨e1, hB9, hk1, hk2, hk3, -⟩ := q9; cases e1
                        have hBn : CBr h9 (nC c + 1) (B i (j + 1)) := by rw [bf (by omega) i j i1 (by omega) j1 (by omega)]; exact hB9
                        have hRn := hk2 hR3
                        have hCn : RCo h9 (S 35 c) (screenAt S (S 35 c)) := RCo_at (hk1 _ (nSC c1 s0 s1 (by decide) (by decide))) hC3
                        have e7n : zf h9 107 (nC c + 1) = p := hk3.trans e73
                        have hZn : ∀ t, 1 ≤ t → t ≤ hh → za h9 (nC c + 4) t = rcG (Pc S c) (Rc S c) p (ra * 12 + ca) (if t < j + 1 then i else i - 1) t := fun t t0 t1 => ((hk1 (nC c + 4) (by omega)).2.2.2.1 t).trans (hZ3 t t0 t1)
                        have hFn : ∀ m, m ≠ nC c + 1 → m ≠ nC c + 4 → eqAt m h h9 := fun m m1 m2 => eqAt_tr (hF3 m m1 m2) (hk1 m m1)
                        refine e_goto (tgt := 246) dX0_tryRectangles_216 (by decide) ?_
                        refine e_iinc dX0_tryRectangles_246 (by decide) rfl rfl rfl rfl ?_
                        refine e_goto (tgt := 111) dX0_tryRectangles_249 (by decide) ?_
                        refine e_mask [true, true, true, true, true, true, true, true, true, true, true, false, false] ?_
                        exact ih111 _ _ _ (by omega) (by omega) (by omega) (by rw [show j + 1 - 1 = j by omega]) hRn hCn e7n hBn hZn hFn
                    rw [← hq]
                    refine e_iload dX0_tryRectangles_137 rfl ?_
                    refine e_if_ne (tgt := 154) dX0_tryRectangles_139 (by decide) (by omega) (fun c139 => ?_) (fun c139 => ?_)
                    · skip
                      try simp only [b2_0, b2_n0] at c139
                      refine e_aload_n dX0_tryRectangles_154 rfl rfl ?_
                      refine e_getR dX0_tryRectangles_155 flX0_15 rfl r0 r2 ?_
                      refine e_iload dX0_tryRectangles_158 rfl ?_
                      refine e_iload dX0_tryRectangles_160 rfl ?_
                      refine e_iadd dX0_tryRectangles_162 ?_
                      refine e_iald dX0_tryRectangles_163 (show zK h2 (nC c + 2) = 100 from r4) (qc c139).1 (by rw [r5]; exact (qc c139).2) (r6 (q + (ra * 12 + ca)) (qc c139).1 (qc c139).2) (fun r163 => ?_)
                      first
                        | exact j164 _ r150 (exA c139)
                        | exact j164 _ r163 (exB c139)
                    · skip
                      try simp only [b2_0, b2_n0] at c139
                      refine e_aload_n dX0_tryRectangles_142 rfl rfl ?_
                      refine e_getR dX0_tryRectangles_143 flX0_9 rfl r0 r3 ?_
                      refine e_aload_n dX0_tryRectangles_146 rfl rfl ?_
                      refine e_getI dX0_tryRectangles_147 flX0_35 rfl r0 e72 (fun r147 => ?_)
                      refine e_iald dX0_tryRectangles_150 (show zK h2 (nS (S 35 c) + 4) = 100 from w1) (by omega) (by rw [w2]; omega) (w3 p (by omega) (by omega)) (fun r150 => ?_)
                      refine e_goto (tgt := 164) dX0_tryRectangles_151 (by decide) ?_
                      first
                        | exact j164 _ r150 (exA c139)
                        | exact j164 _ r163 (exB c139)
              exact lp111 10 1 0 h1 (by omega) (by omega) (Or.inl rfl) (by rw [show (1 : Int) - 1 = 0 by omega, rcC_0]) hR1 hC1 e71 hB1 (fun t t0 t1 => by rw [if_neg (by omega)]; exact hZ1 t t0 t1) hF1
        first
          | (have y := q0 c67; rw [show 12 - x1 = ww by omega, show 8 - x2 = hh by omega]; exact lp98 14 1 _ (by omega) (by omega) (Or.inl rfl) hR9 hC9 e79 hB9 (fun t t0 t1 => (f3 t (by omega) (by omega)).trans rfl) (fun m m1 m2 => f4 m m2); done)
          | (have y := q1 c67; rw [show x3 = ww by omega, show x4 = hh by omega]; exact lp98 14 1 _ (by omega) (by omega) (Or.inl rfl) hR9 hC9 e79 hB9 (fun t t0 t1 => (f3 t (by omega) (by omega)).trans rfl) (fun m m1 m2 => f4 m m2); done)
    · skip
      refine e_vret dX0_tryRectangles_30 rfl (by decide) (by decide) ?_
      rw [hret (by omega)]
      exact ⟨rfl, hB, hR, e7, fun m _ _ => eqAt_rf⟩
