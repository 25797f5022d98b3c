set_option maxHeartbeats 4000000 in
set_option maxRecDepth 100000 in
theorem c_X5_topShown {l : Launch} (hl : l.stackTraces = false) {S : S9} {h : zH} {s : Int} (hV : RV S h s) (hb : ∀ w, S 11 w = 0 ∨ S 11 w = 1)  : zC l MX5_topShown [zR (some (nS s))] h (fun o h' => o = .inl (some (zR (wRef (topOf S s)))) ∧ h' = h) := by
  refine zC_of hl rfl rfl (by decide) rfl rfl (Nat.le_of_ble_eq_true rfl) ?_
  obtain ⟨⟨s0, s1⟩, hN, hI, hO, hSo, ⟨ed, cp, hL, hed⟩, hWs⟩ := id hV
  obtain ⟨o1, o2, o3, o4, o5, o6, o7, o8, o9⟩ := id hSo
  have hL1 := hL.1
  have hn := hN.2.2.2.2 s s0 s1
  refine e_aload_n dX5_topShown_0 rfl rfl ?_
  refine e_getR dX5_topShown_1 flX5_20 rfl (by assumption) (by assumption) ?_
  refine e_callV (As := []) (cb := 0) dX5_topShown_4 moJx4a65c_size_8abf5 mvJx4a65c_size_8abf5 mlX5_57 (by decide) rfl (show zK h (nS s + 2) = 0 + 1 from hL1) rfl (Nat.le_of_ble_eq_true rfl) ⟨by decide, by decide, by decide, by decide⟩ (c_Jx4a65c_size_8abf5 hl hL) (fun E h1 q => by cases q.1) (fun v h9 q => ?_)
  obtain ⟨e1, e2⟩ := q; cases e1; rw [e2]; clear e2 h9
  refine e_iconst dX5_topShown_7 ?_
  refine e_isub dX5_topShown_8 ?_
  refine e_istore_n dX5_topShown_9 rfl (by decide) rfl rfl ?_
  have lp10 : ∀ (d : Nat) (i : Int), (i + 1).toNat < d → -1 ≤ i → i < S 16 s → topOfN S s (i + 1).toNat = topOf S s → AW l MX5_topShown (fun o h' => o = .inl (some (zR (wRef (topOf S s)))) ∧ h' = h) 0 0 10 [zR (some (nS s)), zI i, zX] [] h := by
    intro d
    induction d with
    | zero => intro i hd i0 i1 hi; exact absurd hd (by omega)
    | succ d ih =>
      have ih10 := ih
      intro i hd i0 i1 hi
      have ex : 0 ≤ i → topOfN S s (i + 1).toNat = if S 11 (S 15 (6 * s + i)) = 1 then S 15 (6 * s + i) else topOfN S s (i + -1 + 1).toNat := fun z => by
        rw [show (i + 1).toNat = i.toNat + 1 by omega, topOfN_s, show ((i.toNat : Nat) : Int) = i by omega, show (i + -1 + 1).toNat = i.toNat by omega]
      refine e_iload_n dX5_topShown_10 rfl rfl ?_
      refine e_if_lt (tgt := 41) dX5_topShown_11 (by decide) (by omega) (fun c11 => ?_) (fun c11 => ?_)
      · skip
        refine e_null dX5_topShown_41 ?_
        refine e_aret dX5_topShown_42 rfl rfl (by decide) (by decide) ?_
        exact ⟨by rw [← hi, show (i + 1).toNat = 0 by omega]; rfl, rfl⟩
      · skip
        refine e_aload_n dX5_topShown_14 rfl rfl ?_
        refine e_getR dX5_topShown_15 flX5_20 rfl (by assumption) (by assumption) ?_
        refine e_iload_n dX5_topShown_18 rfl rfl ?_
        have q1 := hO s i s0 s1 (by omega) (by omega)
        have q2 := hWs _ q1.1
        have q3 := hI _ _ q1.1
        obtain ⟨k1, f0, f1, r2, f3, f4, f5, f6, f7, f8, f9, k2, n2, cs⟩ := id q2
        have q4 := hb (S 15 (6 * s + i))
        have e8 : 6 * s + ((i.toNat : Nat) : Int) = 6 * s + i := by omega
        refine e_callV (As := [zI _]) (cb := 0) dX5_topShown_19 moJx4a65c_get_915e3 mvJx4a65c_get_915e3 mlX5_60 (by decide) rfl (show zK h (nS s + 2) = 0 + 1 from hL1) rfl (Nat.le_of_ble_eq_true rfl) ⟨by decide, by decide, by decide, by decide⟩ (c_Jx4a65c_get_915e3 hl hL i (by omega) (by omega)) (fun E h1 q => by cases q.1) (fun v h9 q => ?_)
        obtain ⟨e1, e2⟩ := q; cases e1; rw [e2]; clear e2 h9
        refine e_cast (cb := 8) dX5_topShown_22 clX5_9 (by decide) k1 ?_
        refine e_astore_n dX5_topShown_25 rfl (by decide) rfl rfl ?_
        refine e_aload_n dX5_topShown_26 rfl rfl ?_
        refine e_getI dX5_topShown_27 flX5_67 rfl (by assumption) (by assumption) (fun r27 => ?_)
        refine e_if_eq (tgt := 35) dX5_topShown_30 (by decide) (by omega) (fun c30 => ?_) (fun c30 => ?_)
        · skip
          try simp only [b2_0, b2_n0] at c30
          refine e_iinc dX5_topShown_35 (by decide) rfl rfl rfl rfl ?_
          refine e_goto (tgt := 10) dX5_topShown_38 (by decide) ?_
          refine e_mask [true, true, false] ?_
          exact ih10 _ (by omega) (by omega) (by omega) (by rw [ex (by omega), if_neg (by omega)] at hi; exact hi)
        · skip
          try simp only [b2_0, b2_n0] at c30
          refine e_aload_n dX5_topShown_33 rfl rfl ?_
          refine e_aret dX5_topShown_34 rfl rfl (by decide) (by decide) ?_
          exact ⟨by rw [← hi, ex (by omega), if_pos (by omega)]; unfold wRef; rw [if_neg (by omega)], rfl⟩
  exact lp10 7 _ (by omega) (by omega) (by omega) (by rw [show (S 16 s - 1 + 1).toNat = (S 16 s).toNat by omega]; rfl)
set_option maxHeartbeats 4000000 in
set_option maxRecDepth 100000 in
theorem c_X5_topShownAt {l : Launch} (hl : l.stackTraces = false) {S : S9} {h : zH} {s : Int} (hV : RV S h s) (hb : ∀ w, S 11 w = 0 ∨ S 11 w = 1) (x y : Int) (hx : 0 ≤ x ∧ x ≤ 11) (hy : 0 ≤ y ∧ y ≤ 7) : zC l MX5_topShownAt [zR (some (nS s)), zI x, zI y] h (fun o h' => o = .inl (some (zR (wRef (topAt S s (12 * y + x))))) ∧ h' = h) := by
  refine zC_of hl rfl rfl (by decide) rfl rfl (Nat.le_of_ble_eq_true rfl) ?_
  obtain ⟨⟨s0, s1⟩, hN, hI, hO, hSo, ⟨ed, cp, hL, hed⟩, hWs⟩ := id hV
  obtain ⟨o1, o2, o3, o4, o5, o6, o7, o8, o9⟩ := id hSo
  have hL1 := hL.1
  have hn := hN.2.2.2.2 s s0 s1
  refine e_aload_n dX5_topShownAt_0 rfl rfl ?_
  refine e_getR dX5_topShownAt_1 flX5_20 rfl (by assumption) (by assumption) ?_
  refine e_callV (As := []) (cb := 0) dX5_topShownAt_4 moJx4a65c_size_8abf5 mvJx4a65c_size_8abf5 mlX5_57 (by decide) rfl (show zK h (nS s + 2) = 0 + 1 from hL1) rfl (Nat.le_of_ble_eq_true rfl) ⟨by decide, by decide, by decide, by decide⟩ (c_Jx4a65c_size_8abf5 hl hL) (fun E h1 q => by cases q.1) (fun v h9 q => ?_)
  obtain ⟨e1, e2⟩ := q; cases e1; rw [e2]; clear e2 h9
  refine e_iconst dX5_topShownAt_7 ?_
  refine e_isub dX5_topShownAt_8 ?_
  refine e_istore_n dX5_topShownAt_9 rfl (by decide) rfl rfl ?_
  have lp10 : ∀ (d : Nat) (i : Int), (i + 1).toNat < d → -1 ≤ i → i < S 16 s → topAtN S s (12 * y + x) (i + 1).toNat = topAt S s (12 * y + x) → AW l MX5_topShownAt (fun o h' => o = .inl (some (zR (wRef (topAt S s (12 * y + x))))) ∧ h' = h) 0 0 10 [zR (some (nS s)), zI x, zI y, zI i, zX] [] h := by
    intro d
    induction d with
    | zero => intro i hd i0 i1 hi; exact absurd hd (by omega)
    | succ d ih =>
      have ih10 := ih
      intro i hd i0 i1 hi
      have ex : 0 ≤ i → topAtN S s (12 * y + x) (i + 1).toNat = if S 11 (S 15 (6 * s + i)) = 1 ∧ 0 ≤ cellAt S (S 15 (6 * s + i)) (12 * y + x) then S 15 (6 * s + i) else topAtN S s (12 * y + x) (i + -1 + 1).toNat := fun z => by
        rw [show (i + 1).toNat = i.toNat + 1 by omega, topAtN_s, show ((i.toNat : Nat) : Int) = i by omega, show (i + -1 + 1).toNat = i.toNat by omega]
      refine e_iload_n dX5_topShownAt_10 rfl rfl ?_
      refine e_if_lt (tgt := 54) dX5_topShownAt_11 (by decide) (by omega) (fun c11 => ?_) (fun c11 => ?_)
      · skip
        refine e_null dX5_topShownAt_54 ?_
        refine e_aret dX5_topShownAt_55 rfl rfl (by decide) (by decide) ?_
        exact ⟨by rw [← hi, show (i + 1).toNat = 0 by omega]; rfl, rfl⟩
      · skip
        refine e_aload_n dX5_topShownAt_14 rfl rfl ?_
        refine e_getR dX5_topShownAt_15 flX5_20 rfl (by assumption) (by assumption) ?_
        refine e_iload_n dX5_topShownAt_18 rfl rfl ?_
        have q1 := hO s i s0 s1 (by omega) (by omega)
        have q2 := hWs _ q1.1
        have q3 := hI _ _ q1.1
        obtain ⟨k1, f0, f1, r2, f3, f4, f5, f6, f7, f8, f9, k2, n2, cs⟩ := id q2
        have q4 := hb (S 15 (6 * s + i))
        have e8 : 6 * s + ((i.toNat : Nat) : Int) = 6 * s + i := by omega
        refine e_callV (As := [zI _]) (cb := 0) dX5_topShownAt_19 moJx4a65c_get_915e3 mvJx4a65c_get_915e3 mlX5_60 (by decide) rfl (show zK h (nS s + 2) = 0 + 1 from hL1) rfl (Nat.le_of_ble_eq_true rfl) ⟨by decide, by decide, by decide, by decide⟩ (c_Jx4a65c_get_915e3 hl hL i (by omega) (by omega)) (fun E h1 q => by cases q.1) (fun v h9 q => ?_)
        obtain ⟨e1, e2⟩ := q; cases e1; rw [e2]; clear e2 h9
        refine e_cast (cb := 8) dX5_topShownAt_22 clX5_9 (by decide) k1 ?_
        refine e_astore dX5_topShownAt_25 (by decide) rfl rfl ?_
        refine e_aload dX5_topShownAt_27 rfl ?_
        refine e_getI dX5_topShownAt_29 flX5_67 rfl (by assumption) (by assumption) (fun r29 => ?_)
        refine e_if_eq (tgt := 48) dX5_topShownAt_32 (by decide) (by omega) (fun c32 => ?_) (fun c32 => ?_)
        · skip
          try simp only [b2_0, b2_n0] at c32
          refine e_iinc dX5_topShownAt_48 (by decide) rfl rfl rfl rfl ?_
          refine e_goto (tgt := 10) dX5_topShownAt_51 (by decide) ?_
          refine e_mask [true, true, true, true, false] ?_
          exact ih10 _ (by omega) (by omega) (by omega) (by rw [ex (by omega), if_neg (by omega)] at hi; exact hi)
        · skip
          try simp only [b2_0, b2_n0] at c32
          refine e_aload dX5_topShownAt_35 rfl ?_
          refine e_iload_n dX5_topShownAt_37 rfl rfl ?_
          refine e_iload_n dX5_topShownAt_38 rfl rfl ?_
          refine e_callV (As := [zI _, zI _]) (cb := 8) dX5_topShownAt_39 moX7_covers mvX7_covers mlX5_71 (by decide) rfl k1 rfl (Nat.le_of_ble_eq_true rfl) ⟨by decide, by decide, by decide, by decide⟩ (c_X7_covers hl q2 q3 _ _ (by omega) (by omega)) (fun E h1 q => by cases q.1) (fun v h9 q => ?_)
          obtain ⟨e1, e2⟩ := q; cases e1; rw [e2]; clear e2 h9
          refine e_if_eq (tgt := 48) dX5_topShownAt_42 (by decide) b2_in (fun c42 => ?_) (fun c42 => ?_)
          · skip
            try simp only [b2_0, b2_n0] at c42
            have c9 := ncov_cell (S := S) (w := S 15 (6 * s + i)) hx c42
            refine e_iinc dX5_topShownAt_48 (by decide) rfl rfl rfl rfl ?_
            refine e_goto (tgt := 10) dX5_topShownAt_51 (by decide) ?_
            refine e_mask [true, true, true, true, false] ?_
            exact ih10 _ (by omega) (by omega) (by omega) (by rw [ex (by omega), if_neg (by omega)] at hi; exact hi)
          · skip
            try simp only [b2_0, b2_n0] at c42
            have c9 := cov_cell (S := S) (w := S 15 (6 * s + i)) hx (Decidable.not_not.mp c42) q3
            refine e_aload dX5_topShownAt_45 rfl ?_
            refine e_aret dX5_topShownAt_47 rfl rfl (by decide) (by decide) ?_
            exact ⟨by rw [← hi, ex (by omega), if_pos (by omega)]; unfold wRef; rw [if_neg (by omega)], rfl⟩
  exact lp10 7 _ (by omega) (by omega) (by omega) (by rw [show (S 16 s - 1 + 1).toNat = (S 16 s).toNat by omega]; rfl)
set_option maxHeartbeats 4000000 in
set_option maxRecDepth 100000 in
theorem c_X5_colourOfWindows {l : Launch} (hl : l.stackTraces = false) {S : S9} {h : zH} {s : Int} (hV : RV S h s) (hb : ∀ w, S 11 w = 0 ∨ S 11 w = 1) (p : Int) (hp0 : 0 ≤ p) (hp1 : p < 96) : zC l MX5_colourOfWindows [zR (some (nS s)), zI p] h (fun o h' => o = .inl (some (zI (screenAt S s p))) ∧ h' = h ∧ zin (screenAt S s p)) := by
  refine zC_of hl rfl rfl (by decide) rfl rfl (Nat.le_of_ble_eq_true rfl) ?_
  obtain ⟨⟨s0, s1⟩, hN, hI, hO, hSo, ⟨ed, cp, hL, hed⟩, hWs⟩ := id hV
  obtain ⟨o1, o2, o3, o4, o5, o6, o7, o8, o9⟩ := id hSo
  have hL1 := hL.1
  have hn := hN.2.2.2.2 s s0 s1
  have ep : 12 * (p / 12) + p % 12 = p := by omega
  have ht := topAt_in (p := p) hN hO s0 s1
  refine e_iload_n dX5_colourOfWindows_0 rfl rfl ?_
  refine e_bipush dX5_colourOfWindows_1 (by decide) ?_
  refine e_irem dX5_colourOfWindows_3 (by omega) (by omega) (by omega) (by omega) ?_
  refine e_istore_n dX5_colourOfWindows_4 rfl (by decide) rfl rfl ?_
  refine e_iload_n dX5_colourOfWindows_5 rfl rfl ?_
  refine e_bipush dX5_colourOfWindows_6 (by decide) ?_
  refine e_idiv dX5_colourOfWindows_8 (by omega) (by omega) (by omega) (by omega) ?_
  refine e_istore_n dX5_colourOfWindows_9 rfl (by decide) rfl rfl ?_
  refine e_aload_n dX5_colourOfWindows_10 rfl rfl ?_
  refine e_iload_n dX5_colourOfWindows_11 rfl rfl ?_
  refine e_iload_n dX5_colourOfWindows_12 rfl rfl ?_
  refine e_callV (As := [zI _, zI _]) (cb := 6) dX5_colourOfWindows_13 moX5_topShownAt mvX5_topShownAt mlX5_75 (by decide) rfl (show zK h (nS s) = 6 + 1 from o1) rfl (Nat.le_of_ble_eq_true rfl) ⟨by decide, by decide, by decide, by decide⟩ (c_X5_topShownAt hl hV hb _ _ (by omega) (by omega)) (fun E h1 q => by cases q.1) (fun v h9 q => ?_)
  obtain ⟨e1, e2⟩ := q; cases e1; rw [e2]; clear e2 h9
  rw [ep]
  refine e_astore dX5_colourOfWindows_16 (by decide) rfl rfl ?_
  refine e_aload dX5_colourOfWindows_18 rfl ?_
  refine e_ifnonnull (tgt := 27) dX5_colourOfWindows_20 (by decide) (fun r20 c20 => ?_) (fun c20 => ?_)
  · skip
    have hw9 : ¬ topAt S s p < 0 := fun z => by unfold wRef at c20; rw [if_pos z] at c20; cases c20
    have hw8 : wRef (topAt S s p) = some (nW (topAt S s p)) := by unfold wRef; rw [if_neg hw9]
    rw [hw8]
    have q1 : hasW S s (topAt S s p) ∧ S 10 (topAt S s p) = 1 ∧ S 11 (topAt S s p) = 1 ∧ 0 ≤ cellAt S (topAt S s p) p := by omega
    have q2 := hWs _ q1.1
    have q3 := hI _ _ q1.1
    have q5 : ((S 5 (topAt S s p) ≤ p % 12 ∧ p % 12 < S 5 (topAt S s p) + S 7 (topAt S s p)) ∧ S 6 (topAt S s p) ≤ p / 12 ∧ p / 12 < S 6 (topAt S s p) + S 8 (topAt S s p)) := by
      apply Decidable.byContradiction
      intro z
      have := ncov_cell (S := S) (w := topAt S s p) (x := p % 12) (y := p / 12) (by omega) z
      rw [ep] at this
      omega
    have q6 := cov_cell (S := S) (w := topAt S s p) (x := p % 12) (y := p / 12) (by omega) q5 q3
    rw [ep] at q6
    have kw := q2.1
    refine e_aload dX5_colourOfWindows_27 rfl ?_
    refine e_iload_n dX5_colourOfWindows_29 rfl rfl ?_
    refine e_iload_n dX5_colourOfWindows_30 rfl rfl ?_
    refine e_callV (As := [zI _, zI _]) (cb := 8) dX5_colourOfWindows_31 moX7_colourAt mvX7_colourAt mlX5_79 (by decide) rfl (show zK h (nW (topAt S s p)) = 8 + 1 from kw) rfl (Nat.le_of_ble_eq_true rfl) ⟨by decide, by decide, by decide, by decide⟩ (c_X7_colourAt hl q2 q3 _ _ q5.1 q5.2) (fun E h1 q => by cases q.1) (fun v h9 q => ?_)
    obtain ⟨e1, e2, e3⟩ := q; cases e1; rw [e2]; clear e2 h9
    refine e_iret dX5_colourOfWindows_34 rfl trivial (by decide) (by decide) ?_
    first
      | (have es : screenAt S s p = S 14 (96 * topAt S s p + ((p / 12 - S 6 (topAt S s p)) * S 7 (topAt S s p) + (p % 12 - S 5 (topAt S s p)))) := (by unfold screenAt; rw [if_neg hw9, q6.2])
         rw [es]
         exact ⟨rfl, rfl, e3⟩)
      | (have es : screenAt S s p = 0 := if_pos hw9
         rw [es]
         exact ⟨rfl, rfl, zin_0⟩)
  · skip
    have hw9 : topAt S s p < 0 := by
      apply Decidable.byContradiction
      intro z
      unfold wRef at c20
      rw [if_neg z] at c20
      cases c20
    refine e_iconst dX5_colourOfWindows_23 ?_
    refine e_goto (tgt := 34) dX5_colourOfWindows_24 (by decide) ?_
    refine e_iret dX5_colourOfWindows_34 rfl trivial (by decide) (by decide) ?_
    first
      | (have es : screenAt S s p = S 14 (96 * topAt S s p + ((p / 12 - S 6 (topAt S s p)) * S 7 (topAt S s p) + (p % 12 - S 5 (topAt S s p)))) := (by unfold screenAt; rw [if_neg hw9, q6.2])
         rw [es]
         exact ⟨rfl, rfl, e3⟩)
      | (have es : screenAt S s p = 0 := if_pos hw9
         rw [es]
         exact ⟨rfl, rfl, zin_0⟩)
