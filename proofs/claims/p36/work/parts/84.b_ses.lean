set_option maxHeartbeats 4000000 in
set_option maxRecDepth 100000 in
theorem c_X5_isTrue {l : Launch} (hl : l.stackTraces = false) {S : S9} {h : zH} {s : Int} (hV : RV S h s) (hb : ∀ w, S 11 w = 0 ∨ S 11 w = 1) (hc : RCo h s (screenAt S s)) (t0 : 0 ≤ S 32 s) (t60 : S 32 s ≤ 60) (t1 : 0 ≤ S 33 s) (t2 : S 33 s ≤ 96 * S 32 s) (hR : S 31 s = 1 → RR S h s)  : zC l MX5_isTrue [zR (some (nS s))] h (fun o h' => o = .inl (some (zI 1)) ∧ (S 31 s = 1 → RR S h' s) ∧ ∀ m, m ≠ nS s + 14 → eqAt m h h') := by
  refine zC_of hl rfl rfl (by decide) rfl rfl (Nat.le_of_ble_eq_true rfl) ?_
  obtain ⟨⟨s0, s1⟩, hN, hI, hO, hSo, hP, hWs⟩ := id hV
  obtain ⟨o1, o2, o3, o4, o5, o6, o7, o8, o9⟩ := id hSo
  have hn := hN.2.2.2.2 s s0 s1
  refine e_aload_n dX5_isTrue_0 rfl rfl ?_
  refine e_callV (As := []) (cb := 6) dX5_isTrue_1 moX5_isPainted mvX5_isPainted mlX5_87 (by decide) rfl (show zK _ (nS s) = 6 + 1 from o1) rfl (Nat.le_of_ble_eq_true rfl) ⟨by decide, by decide, by decide, by decide⟩ (c_X5_isPainted hl hV hb hc) (fun E h1 q => by cases q.1) (fun v h9 q => ?_)
  obtain ⟨e1, e2⟩ := q; cases e1; rw [e2]; clear e2 h9
  rw [b2_t (sg_z _ (fun i _ _ => b2_f (fun z => z rfl)))]
  refine e_if_eq (tgt := 28) dX5_isTrue_4 (by decide) (by omega) (fun c4 => ?_) (fun c4 => ?_)
  · skip
    try simp only [b2_0, b2_n0] at c4
    exfalso; omega
  · skip
    try simp only [b2_0, b2_n0] at c4
    refine e_aload_n dX5_isTrue_7 rfl rfl ?_
    refine e_getR dX5_isTrue_8 flX5_91 rfl (show zK _ (nS s) = 6 + 1 from o1) o8 ?_
    refine e_ifnull (tgt := 24) dX5_isTrue_11 (by decide) (fun c11 => ?_) (fun r11 c11 => ?_)
    · skip
      have hr := recR_none c11
      refine e_iconst dX5_isTrue_24 ?_
      refine e_goto (tgt := 29) dX5_isTrue_25 (by decide) ?_
      refine e_iret dX5_isTrue_29 rfl (by first | exact Or.inl rfl | exact Or.inr rfl | assumption | exact b2_01) (by decide) (by decide) ?_
      first
        | exact ⟨rfl, fun _ => hX9, e2⟩
        | exact ⟨rfl, hR, fun _ _ => eqAt_rf⟩
    · skip
      obtain ⟨hr, hr2⟩ := recR_some c11; subst hr2
      refine e_aload_n dX5_isTrue_14 rfl rfl ?_
      refine e_getR dX5_isTrue_15 flX5_91 rfl (show zK _ (nS s) = 6 + 1 from o1) (o8.trans (if_pos hr)) ?_
      refine e_callV (As := []) (cb := 5) dX5_isTrue_18 moX4_isAsLookedAt mvX4_isAsLookedAt mlX5_95 (by decide) rfl (show zK _ (nS s + 9) = 5 + 1 from (hR hr).1.1.1) rfl (Nat.le_of_ble_eq_true rfl) ⟨by decide, by decide, by decide, by decide⟩ (c_X4_isAsLookedAt hl (hR hr) t0 t60 (by omega)) (fun E h1 q => by cases q.1) (fun v h1 q => ?_)
      obtain ⟨e1, hX9, e2⟩ := q; cases e1
      refine e_if_eq (tgt := 28) dX5_isTrue_21 (by decide) (by omega) (fun c21 => ?_) (fun c21 => ?_)
      · skip
        try simp only [b2_0, b2_n0] at c21
        exfalso; omega
      · skip
        try simp only [b2_0, b2_n0] at c21
        refine e_iconst dX5_isTrue_24 ?_
        refine e_goto (tgt := 29) dX5_isTrue_25 (by decide) ?_
        refine e_iret dX5_isTrue_29 rfl (by first | exact Or.inl rfl | exact Or.inr rfl | assumption | exact b2_01) (by decide) (by decide) ?_
        first
          | exact ⟨rfl, fun _ => hX9, e2⟩
          | exact ⟨rfl, hR, fun _ _ => eqAt_rf⟩
set_option maxHeartbeats 4000000 in
set_option maxRecDepth 100000 in
theorem c_X5_lookForRecording {l : Launch} (hl : l.stackTraces = false) {S : S9} {h : zH} {s : Int} (hV : RV S h s) (hb : ∀ w, S 11 w = 0 ∨ S 11 w = 1) (hc : RCo h s (screenAt S s)) (hb12 : ∀ w, S 12 w = 0 ∨ S 12 w = 1) (t0 : 0 ≤ S 32 s) (t60 : S 32 s ≤ 60) (t1 : 0 ≤ S 33 s) (t2 : S 33 s ≤ 96 * S 32 s) (hR : S 31 s = 1 → RR S h s)  : zC l MX5_lookForRecording [zR (some (nS s))] h (fun o h' => o = .inl none ∧ (S 31 s = 1 → RR (recS S s) h' s) ∧ (∀ m, (∀ j, 9 ≤ j → j ≤ 13 → m ≠ nS s + j) → eqAt m h h')) := by
  refine zC_of hl rfl rfl (by decide) rfl rfl (Nat.le_of_ble_eq_true rfl) ?_
  obtain ⟨⟨s0, s1⟩, hN, hI, hO, hSo, hP, hWs⟩ := id hV
  obtain ⟨o1, o2, o3, o4, o5, o6, o7, o8, o9⟩ := id hSo
  have hn := hN.2.2.2.2 s s0 s1
  refine e_aload_n dX5_lookForRecording_0 rfl rfl ?_
  refine e_getR dX5_lookForRecording_1 flX5_91 rfl (show zK _ (nS s) = 6 + 1 from o1) o8 ?_
  refine e_ifnull (tgt := 17) dX5_lookForRecording_4 (by decide) (fun c4 => ?_) (fun r4 c4 => ?_)
  · skip
    have hr := recR_none c4
    refine e_vret dX5_lookForRecording_17 rfl (by decide) (by decide) ?_
    rw [recS_no (by omega)]
    exact ⟨rfl, hR, fun _ _ => eqAt_rf⟩
  · skip
    obtain ⟨hr, hr2⟩ := recR_some c4; subst hr2
    refine e_aload_n dX5_lookForRecording_7 rfl rfl ?_
    refine e_getR dX5_lookForRecording_8 flX5_91 rfl (show zK _ (nS s) = 6 + 1 from o1) (o8.trans (if_pos hr)) ?_
    refine e_callV (As := []) (cb := 5) dX5_lookForRecording_11 moX4_isFull mvX4_isFull mlX5_149 (by decide) rfl (show zK _ (nS s + 9) = 5 + 1 from (hR hr).1.1.1) rfl (Nat.le_of_ble_eq_true rfl) ⟨by decide, by decide, by decide, by decide⟩ (c_X4_isFull hl (hR hr)) (fun E h1 q => by cases q.1) (fun v h9 q => ?_)
    obtain ⟨e1, e2⟩ := q; cases e1; rw [e2]; clear e2 h9
    refine e_if_eq (tgt := 18) dX5_lookForRecording_14 (by decide) b2_in (fun c14 => ?_) (fun c14 => ?_)
    · skip
      try simp only [b2_0, b2_n0] at c14
      refine e_iconst dX5_lookForRecording_18 ?_
      refine e_istore_n dX5_lookForRecording_19 rfl (by decide) rfl rfl ?_
      have lp20 : ∀ (d : Nat) (i : Int) (h1 : zH), (96 - i).toNat < d → 0 ≤ i → i ≤ 96 → RRx S h1 s (fun p => if p < i then itsL S s p else oldL S s p) (S 33 s + sg (fun p => b2 (itsL S s p ≠ oldL S s p)) i.toNat) → (∀ m, (∀ j, 9 ≤ j → j ≤ 13 → m ≠ nS s + j) → eqAt m h h1) → AW l MX5_lookForRecording (fun o h' => o = .inl none ∧ (S 31 s = 1 → RR (recS S s) h' s) ∧ (∀ m, (∀ j, 9 ≤ j → j ≤ 13 → m ≠ nS s + j) → eqAt m h h')) 0 0 20 [zR (some (nS s)), zI i, zX, zX] [] h1 := by
        intro d
        induction d with
        | zero => intro i h1 hd i0 i1 hX1 hF1; exact absurd hd (by omega)
        | succ d ih =>
          have ih20 := ih
          intro i h1 hd i0 i1 hX1 hF1
          have hr60 : S 31 s = 1 ∧ S 32 s ≠ 60 := ⟨hr, by omega⟩
          have ns : ∀ j, j ≤ 8 ∨ j = 15 → eqAt (nS s + j) h h1 := fun j hj => hF1 _ (fun k _ _ => by omega)
          have hV1 : RV S h1 s := RV_fr (ns 0 (by decide)) (ns 2 (by decide)) (ns 15 (by decide)) (fun w hw => ⟨hF1 _ (fun k _ _ => by unfold nW nS; omega), hF1 _ (fun k _ _ => by unfold nW nS; omega)⟩) hV
          have hC1 := RCo_at (ns 4 (by decide)) hc
          obtain ⟨q1, q2, q3⟩ := id hC1
          obtain ⟨l1, l2, l3, l4, l5, l6, l7, l8, l9⟩ := id hV1.2.2.2.2.1
          have l8r := l8.trans (if_pos hr)
          have cc := sg_in1 (f := (fun p => b2 (itsL S s p ≠ oldL S s p))) (fun _ _ => b2_le) i i0
          refine e_G (fun hG1 => ?_)
          have hzs : ∀ p, 0 ≤ p → p < 96 → zin (za h1 (nS s + 4) p) := fun p _ _ => hG1.2.1 _ _
          refine e_iload_n dX5_lookForRecording_20 rfl rfl ?_
          refine e_bipush dX5_lookForRecording_21 (by decide) ?_
          refine e_icmp_ge (tgt := 86) dX5_lookForRecording_23 (by decide) (by omega) (by omega) (fun c23 => ?_) (fun c23 => ?_)
          · skip
            refine e_aload_n dX5_lookForRecording_86 rfl rfl ?_
            refine e_getR dX5_lookForRecording_87 flX5_91 rfl (show zK _ (nS s) = 6 + 1 from l1) l8r ?_
            rw [show i = 96 by omega] at hX1
            refine e_callV (As := []) (cb := 5) dX5_lookForRecording_90 moX4_endTick mvX4_endTick mlX5_159 (by decide) rfl (show zK h1 (nS s + 9) = 5 + 1 from hX1.1.1.1) rfl (Nat.le_of_ble_eq_true rfl) ⟨by decide, by decide, by decide, by decide⟩ (c_X4_endTick hl (S' := recS S s) hX1 (by have := sg_in1 (f := (fun p => b2 (itsL S s p ≠ oldL S s p))) (fun _ _ => b2_le) 96 (by decide); omega) (by have := sg_in1 (f := (fun p => b2 (itsL S s p ≠ oldL S s p))) (fun _ _ => b2_le) 96 (by decide); omega) t0 (by omega) (recS_32 hr60) (fun t p _ t1 _ p1 => recS_old hr60 t1 p1) (fun p p0 p1 => (recS_new hr60 p0 p1).trans (if_pos (by omega)).symm)) (fun E h1 q => by cases q.1) (fun v h1 q => ?_)
            obtain ⟨e1, hX2, e2⟩ := q; cases e1
            refine e_vret dX5_lookForRecording_93 rfl (by decide) (by decide) ?_
            exact ⟨rfl, fun _ => RR_rec t0 hr60 (RRx_eq rfl (fun p p0 p1 => (if_pos (by omega)).symm) rfl (fun _ _ _ _ _ _ => rfl) hX2), fun m hm => eqAt_tr (hF1 m hm) (e2 m (hm 9 (by decide) (by decide)) (hm 12 (by decide) (by decide)))⟩
          · skip
            refine e_aload_n dX5_lookForRecording_26 rfl rfl ?_
            refine e_iload_n dX5_lookForRecording_27 rfl rfl ?_
            refine e_bipush dX5_lookForRecording_28 (by decide) ?_
            refine e_irem dX5_lookForRecording_30 ⟨by omega, by omega⟩ (by omega) ⟨by decide, by decide⟩ (by decide) ?_
            refine e_iload_n dX5_lookForRecording_31 rfl rfl ?_
            refine e_bipush dX5_lookForRecording_32 (by decide) ?_
            refine e_idiv dX5_lookForRecording_34 ⟨by omega, by omega⟩ (by omega) ⟨by decide, by decide⟩ (by decide) ?_
            refine e_callV (As := [zI _, zI _]) (cb := 6) dX5_lookForRecording_35 moX5_topShownAt mvX5_topShownAt mlX5_75 (by decide) rfl (show zK _ (nS s) = 6 + 1 from l1) rfl (Nat.le_of_ble_eq_true rfl) ⟨by decide, by decide, by decide, by decide⟩ (c_X5_topShownAt hl hV1 hb (i % 12) (i / 12) (by omega) (by omega)) (fun E h1 q => by cases q.1) (fun v h9 q => ?_)
            obtain ⟨e1, e2⟩ := q; cases e1; rw [e2]; clear e2 h9
            rw [show 12 * (i / 12) + i % 12 = i by omega]
            have hti := topAt_in (p := i) hN hO s0 s1
            refine e_astore_n dX5_lookForRecording_38 rfl (by decide) rfl rfl ?_
            refine e_aload_n dX5_lookForRecording_39 rfl rfl ?_
            refine e_ifnull (tgt := 54) dX5_lookForRecording_40 (by decide) (fun c40 => ?_) (fun r40 c40 => ?_)
            · skip
              have w0 := wRef_none c40
              refine e_iconst dX5_lookForRecording_54 ?_
              refine e_istore_n dX5_lookForRecording_55 rfl (by decide) rfl rfl ?_
              refine e_aload_n dX5_lookForRecording_56 rfl rfl ?_
              refine e_getR dX5_lookForRecording_57 flX5_91 rfl (show zK _ (nS s) = 6 + 1 from l1) l8r ?_
              refine e_iload_n dX5_lookForRecording_60 rfl rfl ?_
              refine e_iload_n dX5_lookForRecording_61 rfl rfl ?_
              refine e_if_eq (tgt := 71) dX5_lookForRecording_62 (by decide) (by omega) (fun c62 => ?_) (fun c62 => ?_)
              · skip
                refine e_aload_n dX5_lookForRecording_71 rfl rfl ?_
                refine e_getR dX5_lookForRecording_72 flX5_27 rfl (show zK _ (nS s) = 6 + 1 from l1) l5 ?_
                refine e_iload_n dX5_lookForRecording_75 rfl rfl ?_
                refine e_iald dX5_lookForRecording_76 (show zK h1 (nS s + 4) = 100 from q1) i0 (by rw [q2]; omega) (q3 i i0 (by omega)) (fun r76 => ?_)
                have b12 := hb12 (topAt S s i)
                have ev : itsL S s i = if 0 ≤ topAt S s i ∧ S 12 (topAt S s i) = 1 then 255 else screenAt S s i := rfl
                have hzi : zin (itsL S s i) := by
                  rw [ev]
                  split
                  · decide
                  · rw [← q3 i i0 (by omega)]
                    exact hzs i i0 (by omega)
                first
                  | rw [show (255 : Int) = itsL S s i by rw [ev, if_pos ⟨by omega, by omega⟩]]
                  | rw [show screenAt S s i = itsL S s i by rw [ev, if_neg (by omega)]]
                refine e_callV (As := [zI _, zI _]) (cb := 5) dX5_lookForRecording_77 moX4_look mvX4_look mlX5_155 (by decide) rfl (show zK h1 (nS s + 9) = 5 + 1 from hX1.1.1.1) rfl (Nat.le_of_ble_eq_true rfl) ⟨by decide, by decide, by decide, by decide⟩ (c_X4_look hl hX1 (by omega) (by omega) i (itsL S s i) i0 (by omega) hzi) (fun E h1 q => by cases q.1) (fun v h1 q => ?_)
                obtain ⟨e1, hX2, e2⟩ := q; cases e1
                refine e_iinc dX5_lookForRecording_80 (by decide) rfl rfl rfl rfl ?_
                refine e_goto (tgt := 20) dX5_lookForRecording_83 (by decide) ?_
                refine e_mask [true, true, false, false] ?_
                exact ih20 _ _ (by omega) (by omega) (by omega) (RRx_eq (by rw [sg_s i0, if_neg (by omega)]; omega) (fun p p0 p1 => by
                  by_cases z : p = i
                  · subst z; rw [if_pos (by omega), if_pos rfl]
                  · rw [if_neg z]
                    by_cases y : p < i
                    · rw [if_pos (by omega), if_pos y]
                    · rw [if_neg (by omega), if_neg y]) rfl (fun _ _ _ _ _ _ => rfl) hX2) (fun m hm => eqAt_tr (hF1 m hm) (e2 m (hm 9 (by decide) (by decide)) (fun j j0 j1 => hm j (by omega) j1)))
              · skip
                exfalso; omega
            · skip
              rw [c40]
              obtain ⟨w0, hw9⟩ := wRef_some c40
              subst hw9
              have hti2 : hasW S s (topAt S s i) := by omega
              have hWt := hV1.2.2.2.2.2.2 _ hti2
              refine e_aload_n dX5_lookForRecording_43 rfl rfl ?_
              refine e_getI dX5_lookForRecording_44 flX5_152 rfl (show zK h1 (nW (topAt S s i)) = 8 + 1 from hWt.1) hWt.2.2.2.2.2.2.2.2.1 (fun r44 => ?_)
              refine e_if_eq (tgt := 54) dX5_lookForRecording_47 (by decide) (by omega) (fun c47 => ?_) (fun c47 => ?_)
              · skip
                try simp only [b2_0, b2_n0] at c47
                refine e_iconst dX5_lookForRecording_54 ?_
                refine e_istore_n dX5_lookForRecording_55 rfl (by decide) rfl rfl ?_
                refine e_aload_n dX5_lookForRecording_56 rfl rfl ?_
                refine e_getR dX5_lookForRecording_57 flX5_91 rfl (show zK _ (nS s) = 6 + 1 from l1) l8r ?_
                refine e_iload_n dX5_lookForRecording_60 rfl rfl ?_
                refine e_iload_n dX5_lookForRecording_61 rfl rfl ?_
                refine e_if_eq (tgt := 71) dX5_lookForRecording_62 (by decide) (by omega) (fun c62 => ?_) (fun c62 => ?_)
                · skip
                  refine e_aload_n dX5_lookForRecording_71 rfl rfl ?_
                  refine e_getR dX5_lookForRecording_72 flX5_27 rfl (show zK _ (nS s) = 6 + 1 from l1) l5 ?_
                  refine e_iload_n dX5_lookForRecording_75 rfl rfl ?_
                  refine e_iald dX5_lookForRecording_76 (show zK h1 (nS s + 4) = 100 from q1) i0 (by rw [q2]; omega) (q3 i i0 (by omega)) (fun r76 => ?_)
                  have b12 := hb12 (topAt S s i)
                  have ev : itsL S s i = if 0 ≤ topAt S s i ∧ S 12 (topAt S s i) = 1 then 255 else screenAt S s i := rfl
                  have hzi : zin (itsL S s i) := by
                    rw [ev]
                    split
                    · decide
                    · rw [← q3 i i0 (by omega)]
                      exact hzs i i0 (by omega)
                  first
                    | rw [show (255 : Int) = itsL S s i by rw [ev, if_pos ⟨by omega, by omega⟩]]
                    | rw [show screenAt S s i = itsL S s i by rw [ev, if_neg (by omega)]]
                  refine e_callV (As := [zI _, zI _]) (cb := 5) dX5_lookForRecording_77 moX4_look mvX4_look mlX5_155 (by decide) rfl (show zK h1 (nS s + 9) = 5 + 1 from hX1.1.1.1) rfl (Nat.le_of_ble_eq_true rfl) ⟨by decide, by decide, by decide, by decide⟩ (c_X4_look hl hX1 (by omega) (by omega) i (itsL S s i) i0 (by omega) hzi) (fun E h1 q => by cases q.1) (fun v h1 q => ?_)
                  obtain ⟨e1, hX2, e2⟩ := q; cases e1
                  refine e_iinc dX5_lookForRecording_80 (by decide) rfl rfl rfl rfl ?_
                  refine e_goto (tgt := 20) dX5_lookForRecording_83 (by decide) ?_
                  refine e_mask [true, true, false, false] ?_
                  exact ih20 _ _ (by omega) (by omega) (by omega) (RRx_eq (by rw [sg_s i0, if_neg (by omega)]; omega) (fun p p0 p1 => by
                    by_cases z : p = i
                    · subst z; rw [if_pos (by omega), if_pos rfl]
                    · rw [if_neg z]
                      by_cases y : p < i
                      · rw [if_pos (by omega), if_pos y]
                      · rw [if_neg (by omega), if_neg y]) rfl (fun _ _ _ _ _ _ => rfl) hX2) (fun m hm => eqAt_tr (hF1 m hm) (e2 m (hm 9 (by decide) (by decide)) (fun j j0 j1 => hm j (by omega) j1)))
                · skip
                  exfalso; omega
              · skip
                try simp only [b2_0, b2_n0] at c47
                refine e_iconst dX5_lookForRecording_50 ?_
                refine e_goto (tgt := 55) dX5_lookForRecording_51 (by decide) ?_
                refine e_istore_n dX5_lookForRecording_55 rfl (by decide) rfl rfl ?_
                refine e_aload_n dX5_lookForRecording_56 rfl rfl ?_
                refine e_getR dX5_lookForRecording_57 flX5_91 rfl (show zK _ (nS s) = 6 + 1 from l1) l8r ?_
                refine e_iload_n dX5_lookForRecording_60 rfl rfl ?_
                refine e_iload_n dX5_lookForRecording_61 rfl rfl ?_
                refine e_if_eq (tgt := 71) dX5_lookForRecording_62 (by decide) (by omega) (fun c62 => ?_) (fun c62 => ?_)
                · skip
                  exfalso; omega
                · skip
                  refine e_sipush dX5_lookForRecording_65 (by decide) ?_
                  refine e_goto (tgt := 77) dX5_lookForRecording_68 (by decide) ?_
                  have b12 := hb12 (topAt S s i)
                  have ev : itsL S s i = if 0 ≤ topAt S s i ∧ S 12 (topAt S s i) = 1 then 255 else screenAt S s i := rfl
                  have hzi : zin (itsL S s i) := by
                    rw [ev]
                    split
                    · decide
                    · rw [← q3 i i0 (by omega)]
                      exact hzs i i0 (by omega)
                  first
                    | rw [show (255 : Int) = itsL S s i by rw [ev, if_pos ⟨by omega, by omega⟩]]
                    | rw [show screenAt S s i = itsL S s i by rw [ev, if_neg (by omega)]]
                  refine e_callV (As := [zI _, zI _]) (cb := 5) dX5_lookForRecording_77 moX4_look mvX4_look mlX5_155 (by decide) rfl (show zK h1 (nS s + 9) = 5 + 1 from hX1.1.1.1) rfl (Nat.le_of_ble_eq_true rfl) ⟨by decide, by decide, by decide, by decide⟩ (c_X4_look hl hX1 (by omega) (by omega) i (itsL S s i) i0 (by omega) hzi) (fun E h1 q => by cases q.1) (fun v h1 q => ?_)
                  obtain ⟨e1, hX2, e2⟩ := q; cases e1
                  refine e_iinc dX5_lookForRecording_80 (by decide) rfl rfl rfl rfl ?_
                  refine e_goto (tgt := 20) dX5_lookForRecording_83 (by decide) ?_
                  refine e_mask [true, true, false, false] ?_
                  exact ih20 _ _ (by omega) (by omega) (by omega) (RRx_eq (by rw [sg_s i0, if_neg (by omega)]; omega) (fun p p0 p1 => by
                    by_cases z : p = i
                    · subst z; rw [if_pos (by omega), if_pos rfl]
                    · rw [if_neg z]
                      by_cases y : p < i
                      · rw [if_pos (by omega), if_pos y]
                      · rw [if_neg (by omega), if_neg y]) rfl (fun _ _ _ _ _ _ => rfl) hX2) (fun m hm => eqAt_tr (hF1 m hm) (e2 m (hm 9 (by decide) (by decide)) (fun j j0 j1 => hm j (by omega) j1)))
      exact lp20 97 0 h (by decide) (by decide) (by decide) (RRx_eq (by rw [sg_0, Int.add_zero]) (fun p p0 p1 => if_neg (by omega)) rfl (fun _ _ _ _ _ _ => rfl) (hR hr)) (fun m _ => eqAt_rf)
    · skip
      try simp only [b2_0, b2_n0] at c14
      refine e_vret dX5_lookForRecording_17 rfl (by decide) (by decide) ?_
      rw [recS_no (by omega)]
      exact ⟨rfl, hR, fun _ _ => eqAt_rf⟩
set_option maxHeartbeats 4000000 in
set_option maxRecDepth 100000 in
theorem c_X5_init {l : Launch} (hl : l.stackTraces = false) {h : zH} {s : Int} (k0 : zK h (nS s) = 7) (k1 : zK h (nS s + 1) = 0) (k2 : zK h (nS s + 2) = 0) (k3 : zK h (nS s + 3) = 0) (k4 : zK h (nS s + 4) = 0) (k5 : zK h (nS s + 5) = 0) (k6 : zK h (nS s + 6) = 0) (k7 : zK h (nS s + 7) = 0) (k8 : zK h (nS s + 8) = 0) (f6 : zr h 606 (nS s) = none) (f7 : zf h 607 (nS s) = 0) (f8 : zf h 608 (nS s) = 0)  : zC l MX5_init [zR (some (nS s))] h (fun o h' => o = .inl none ∧ RS0 h' s ∧ ∀ m, (∀ j, j ≤ 8 → m ≠ nS s + j) → eqAt m h h') := by
  refine zC_of hl rfl rfl (by decide) rfl rfl (Nat.le_of_ble_eq_true rfl) ?_
  refine e_aload_n dX5_init_0 rfl rfl ?_
  refine e_objInit dX5_init_1 mlX5_3 tw_oiI tw_oiC (by decide) (by decide) ?_
  refine e_aload_n dX5_init_4 rfl rfl ?_
  refine e_bipush dX5_init_5 (by decide) ?_
  refine e_newq (nS s + 1) 6 6 dX5_init_7 (by decide) (by decide) rfl clX5_9 tw_ovW rfl (by decide) (by unfold nS; omega) (by simp [s_ff, s_fr, s_fn, s_rf, s_rr, s_rn, s_Kf, s_Kr, s_Kn, s_Nf, s_Nr, s_Nn, s_af, s_ar, s_an, k0, f6, f7, f8, k1, k2, k3, k4, k5, k6, k7, k8]) (by decide) (by decide) ?_
  refine e_putR dX5_init_10 flX5_11 (Or.inr ⟨rfl, rfl, rfl⟩) rfl (by simp [s_ff, s_fr, s_fn, s_rf, s_rr, s_rn, s_Kf, s_Kr, s_Kn, s_Nf, s_Nr, s_Nn, s_af, s_ar, s_an, k0, f6, f7, f8, k1, k2, k3, k4, k5, k6, k7, k8]) ?_
  refine e_aload_n dX5_init_13 rfl rfl ?_
  refine e_new (ci := 0) (nS s + 2) dX5_init_14 (by decide) clX5_17 tw_alN tw_alI (by unfold nS; omega) (by simp [s_ff, s_fr, s_fn, s_rf, s_rr, s_rn, s_Kf, s_Kr, s_Kn, s_Nf, s_Nr, s_Nn, s_af, s_ar, s_an, k0, f6, f7, f8, k1, k2, k3, k4, k5, k6, k7, k8]) (by decide) (by decide) ?_
  refine e_dup dX5_init_17 rfl ?_
  refine e_callI (As := []) dX5_init_18 moJx4a65c_init_da8c8 miJx4a65c_init_da8c8 rfl rfl mlX5_19 rfl (Nat.le_of_ble_eq_true rfl) ⟨by decide, by decide, by decide, by decide⟩ (c_Jx4a65c_init_da8c8 hl (nS s + 2) (by simp [s_ff, s_fr, s_fn, s_rf, s_rr, s_rn, s_Kf, s_Kr, s_Kn, s_Nf, s_Nr, s_Nn, s_af, s_ar, s_an, k0, f6, f7, f8, k1, k2, k3, k4, k5, k6, k7, k8])) (fun E h1 q => by cases q.1) (fun v h9 q => ?_)
  obtain ⟨e1, e2⟩ := q; cases e1; rw [e2]; clear e2 h9
  refine e_putR dX5_init_21 flX5_20 (Or.inr ⟨rfl, rfl, rfl⟩) rfl (by simp [s_ff, s_fr, s_fn, s_rf, s_rr, s_rn, s_Kf, s_Kr, s_Kn, s_Nf, s_Nr, s_Nn, s_af, s_ar, s_an, k0, f6, f7, f8, k1, k2, k3, k4, k5, k6, k7, k8]) ?_
  refine e_aload_n dX5_init_24 rfl rfl ?_
  refine e_new (ci := 0) (nS s + 3) dX5_init_25 (by decide) clX5_17 tw_alN tw_alI (by unfold nS; omega) (by simp [s_ff, s_fr, s_fn, s_rf, s_rr, s_rn, s_Kf, s_Kr, s_Kn, s_Nf, s_Nr, s_Nn, s_af, s_ar, s_an, k0, f6, f7, f8, k1, k2, k3, k4, k5, k6, k7, k8]) (by decide) (by decide) ?_
  refine e_dup dX5_init_28 rfl ?_
  refine e_callI (As := []) dX5_init_29 moJx4a65c_init_da8c8 miJx4a65c_init_da8c8 rfl rfl mlX5_19 rfl (Nat.le_of_ble_eq_true rfl) ⟨by decide, by decide, by decide, by decide⟩ (c_Jx4a65c_init_da8c8 hl (nS s + 3) (by simp [s_ff, s_fr, s_fn, s_rf, s_rr, s_rn, s_Kf, s_Kr, s_Kn, s_Nf, s_Nr, s_Nn, s_af, s_ar, s_an, k0, f6, f7, f8, k1, k2, k3, k4, k5, k6, k7, k8])) (fun E h1 q => by cases q.1) (fun v h9 q => ?_)
  obtain ⟨e1, e2⟩ := q; cases e1; rw [e2]; clear e2 h9
  refine e_putR dX5_init_32 flX5_24 (Or.inr ⟨rfl, rfl, rfl⟩) rfl (by simp [s_ff, s_fr, s_fn, s_rf, s_rr, s_rn, s_Kf, s_Kr, s_Kn, s_Nf, s_Nr, s_Nn, s_af, s_ar, s_an, k0, f6, f7, f8, k1, k2, k3, k4, k5, k6, k7, k8]) ?_
  refine e_aload_n dX5_init_35 rfl rfl ?_
  refine e_bipush dX5_init_36 (by decide) ?_
  refine e_newa (nS s + 4) 0 96 dX5_init_38 (by decide) rfl tw_arrInt rfl (by decide) (by unfold nS; omega) (by simp [s_ff, s_fr, s_fn, s_rf, s_rr, s_rn, s_Kf, s_Kr, s_Kn, s_Nf, s_Nr, s_Nn, s_af, s_ar, s_an, k0, f6, f7, f8, k1, k2, k3, k4, k5, k6, k7, k8]) (by decide) (by decide) ?_
  refine e_putR dX5_init_40 flX5_27 (Or.inr ⟨rfl, rfl, rfl⟩) rfl (by simp [s_ff, s_fr, s_fn, s_rf, s_rr, s_rn, s_Kf, s_Kr, s_Kn, s_Nf, s_Nr, s_Nn, s_af, s_ar, s_an, k0, f6, f7, f8, k1, k2, k3, k4, k5, k6, k7, k8]) ?_
  refine e_aload_n dX5_init_43 rfl rfl ?_
  refine e_new (ci := 3) (nS s + 5) dX5_init_44 (by decide) clX5_31 tn_X2.1 tn_X2.2 (by unfold nS; omega) (by simp [s_ff, s_fr, s_fn, s_rf, s_rr, s_rn, s_Kf, s_Kr, s_Kn, s_Nf, s_Nr, s_Nn, s_af, s_ar, s_an, k0, f6, f7, f8, k1, k2, k3, k4, k5, k6, k7, k8]) (by decide) (by decide) ?_
  refine e_dup dX5_init_47 rfl ?_
  refine e_callI (As := []) dX5_init_48 moX2_init miX2_init rfl rfl mlX5_33 rfl (Nat.le_of_ble_eq_true rfl) ⟨by decide, by decide, by decide, by decide⟩ (c_X2_init hl (nS s + 5) (by simp [s_ff, s_fr, s_fn, s_rf, s_rr, s_rn, s_Kf, s_Kr, s_Kn, s_Nf, s_Nr, s_Nn, s_af, s_ar, s_an, k0, f6, f7, f8, k1, k2, k3, k4, k5, k6, k7, k8])) (fun E h1 q => by cases q.1) (fun v h9 q => ?_)
  obtain ⟨e1, e2⟩ := q; cases e1; rw [e2]; clear e2 h9
  refine e_putR dX5_init_51 flX5_34 (Or.inr ⟨rfl, rfl, rfl⟩) rfl (by simp [s_ff, s_fr, s_fn, s_rf, s_rr, s_rn, s_Kf, s_Kr, s_Kn, s_Nf, s_Nr, s_Nn, s_af, s_ar, s_an, k0, f6, f7, f8, k1, k2, k3, k4, k5, k6, k7, k8]) ?_
  refine e_aload_n dX5_init_54 rfl rfl ?_
  refine e_new (ci := 7) (nS s + 6) dX5_init_55 (by decide) clX5_38 tn_X6.1 tn_X6.2 (by unfold nS; omega) (by simp [s_ff, s_fr, s_fn, s_rf, s_rr, s_rn, s_Kf, s_Kr, s_Kn, s_Nf, s_Nr, s_Nn, s_af, s_ar, s_an, k0, f6, f7, f8, k1, k2, k3, k4, k5, k6, k7, k8]) (by decide) (by decide) ?_
  refine e_dup dX5_init_58 rfl ?_
  refine e_callI (As := []) dX5_init_59 moX6_init miX6_init rfl rfl mlX5_40 rfl (Nat.le_of_ble_eq_true rfl) ⟨by decide, by decide, by decide, by decide⟩ (c_X6_init hl s (by simp [s_ff, s_fr, s_fn, s_rf, s_rr, s_rn, s_Kf, s_Kr, s_Kn, s_Nf, s_Nr, s_Nn, s_af, s_ar, s_an, k0, f6, f7, f8, k1, k2, k3, k4, k5, k6, k7, k8]) (by simp [s_ff, s_fr, s_fn, s_rf, s_rr, s_rn, s_Kf, s_Kr, s_Kn, s_Nf, s_Nr, s_Nn, s_af, s_ar, s_an, k0, f6, f7, f8, k1, k2, k3, k4, k5, k6, k7, k8]) (by simp [s_ff, s_fr, s_fn, s_rf, s_rr, s_rn, s_Kf, s_Kr, s_Kn, s_Nf, s_Nr, s_Nn, s_af, s_ar, s_an, k0, f6, f7, f8, k1, k2, k3, k4, k5, k6, k7, k8])) (fun E h1 q => by cases q.1) (fun v h9 q => ?_)
  obtain ⟨e1, e2⟩ := q; cases e1; rw [e2]; clear e2 h9
  refine e_putR dX5_init_62 flX5_41 (Or.inr ⟨rfl, rfl, rfl⟩) rfl (by simp [s_ff, s_fr, s_fn, s_rf, s_rr, s_rn, s_Kf, s_Kr, s_Kn, s_Nf, s_Nr, s_Nn, s_af, s_ar, s_an, k0, f6, f7, f8, k1, k2, k3, k4, k5, k6, k7, k8]) ?_
  refine e_vret dX5_init_65 rfl (by decide) (by decide) ?_
  refine ⟨rfl, ?_, fun m hm => ?_⟩
  · refine ⟨⟨?_, ?_, ?_, ?_, ?_, ?_, ?_, ?_, ?_, ?_⟩, ⟨?_, ?_⟩, ⟨?_, ?_, ?_⟩, ⟨?_, ?_, ?_⟩, ⟨?_, ?_, fun p => ?_⟩, ⟨?_, ?_⟩, ⟨?_, ?_, ?_, ?_, ?_⟩, ⟨?_, ?_, fun p => ?_⟩, ?_, ?_, fun p => ?_⟩
    all_goals simp [s_ff, s_fr, s_fn, s_rf, s_rr, s_rn, s_Kf, s_Kr, s_Kn, s_Nf, s_Nr, s_Nn, s_af, s_ar, s_an, k0, f6, f7, f8, k1, k2, k3, k4, k5, k6, k7, k8]
  · have m0 := hm 0 (by decide)
    have m1 := hm 1 (by decide)
    have m2 := hm 2 (by decide)
    have m3 := hm 3 (by decide)
    have m4 := hm 4 (by decide)
    have m5 := hm 5 (by decide)
    have m6 := hm 6 (by decide)
    have m7 := hm 7 (by decide)
    have m8 := hm 8 (by decide)
    repeat first
      | exact eqAt_rf
      | (refine eqAt_tr ?_ (eqAt_sr (by omega)))
      | (refine eqAt_tr ?_ (eqAt_sf (by omega)))
      | (refine eqAt_tr ?_ (eqAt_nw (by omega)))
set_option maxHeartbeats 4000000 in
set_option maxRecDepth 100000 in
theorem c_X1_init {l : Launch} (hl : l.stackTraces = false) {S : S9} {h : zH} {c b : Int} (hb : zin b) (k0 : zK h (nC c) = 3) (k1 : zK h (nC c + 1) = 0) (k2 : zK h (nC c + 2) = 0) (k3 : zK h (nC c + 3) = 0) (k4 : zK h (nC c + 4) = 0) (k5 : zK h (nS (S 35 c)) = 7 ∧ zr h 603 (nS (S 35 c)) = some (nS (S 35 c) + 4)) (hn1 : nS (S 35 c) ≠ nC c) (hn2 : nS (S 35 c) ≠ nC c + 1) (hn3 : nC c ≠ nC c + 1) (f4 : zf h 204 (nC c) = 0) (f5 : zf h 205 (nC c) = 0) (f6 : zf h 206 (nC c) = 0) (b6 : S 36 c = b) (b7 : S 37 c = 0) (b8 : S 38 c = 0) (b9 : S 39 c = 0) (hz : ∀ q, 0 ≤ q → q < 96 → S 40 (96 * c + q) = 0)  : zC l MX1_init [zR (some (nC c)), zR (some (nS (S 35 c))), zI b] h (fun o h' => o = .inl none ∧ RCl S h' c ∧ RCh S h' c ∧ ∀ m, m ≠ nC c → m ≠ nC c + 1 → m ≠ nC c + 2 → m ≠ nC c + 3 → m ≠ nC c + 4 → eqAt m h h') := by
  refine zC_of hl rfl rfl (by decide) rfl rfl (Nat.le_of_ble_eq_true rfl) ?_
  refine e_aload_n dX1_init_0 rfl rfl ?_
  refine e_objInit dX1_init_1 mlX1_3 tw_oiI tw_oiC (by decide) (by decide) ?_
  refine e_aload_n dX1_init_4 rfl rfl ?_
  refine e_aload_n dX1_init_5 rfl rfl ?_
  refine e_putR dX1_init_6 flX1_9 (Or.inr ⟨rfl, rfl, rfl⟩) rfl (show zK _ (nC c) = 2 + 1 from k0) ?_
  refine e_aload_n dX1_init_9 rfl rfl ?_
  refine e_iload_n dX1_init_10 rfl rfl ?_
  refine e_putI dX1_init_11 flX1_15 (Or.inl rfl) trivial (show zK _ (nC c) = 2 + 1 from k0) (by omega) ?_
  refine e_aload_n dX1_init_14 rfl rfl ?_
  refine e_new (ci := 1) (nC c + 1) dX1_init_15 (by decide) clX1_19 tn_X0.1 tn_X0.2 (by unfold nC; omega) k1 (by decide) (by decide) ?_
  refine e_dup dX1_init_18 rfl ?_
  refine e_aload_n dX1_init_19 rfl rfl ?_
  refine e_getR dX1_init_20 flX1_21 rfl (by simp [s_ff, s_fr, s_fn, s_rf, s_rr, s_rn, s_Kf, s_Kr, s_Kn, s_Nf, s_Nr, s_Nn, s_af, s_ar, s_an, k0, k1, k2, k3, k4, k5, hn1, hn2, hn3]) (show zr _ 603 (nS (S 35 c)) = some (nS (S 35 c) + 4) by simp [s_ff, s_fr, s_fn, s_rf, s_rr, s_rn, s_Kf, s_Kr, s_Kn, s_Nf, s_Nr, s_Nn, s_af, s_ar, s_an, k0, k1, k2, k3, k4, k5, hn1, hn2, hn3]) ?_
  refine e_callI (As := [zR _]) dX1_init_23 moX0_init miX0_init rfl rfl mlX1_27 rfl (Nat.le_of_ble_eq_true rfl) ⟨by decide, by decide, by decide, by decide⟩ (c_X0_init hl (S := S) (c := c) (by simp [s_ff, s_fr, s_fn, s_rf, s_rr, s_rn, s_Kf, s_Kr, s_Kn, s_Nf, s_Nr, s_Nn, s_af, s_ar, s_an, k0, k1, k2, k3, k4, k5, hn1, hn2, hn3]) (by simp [s_ff, s_fr, s_fn, s_rf, s_rr, s_rn, s_Kf, s_Kr, s_Kn, s_Nf, s_Nr, s_Nn, s_af, s_ar, s_an, k0, k1, k2, k3, k4, k5, hn1, hn2, hn3]) (by simp [s_ff, s_fr, s_fn, s_rf, s_rr, s_rn, s_Kf, s_Kr, s_Kn, s_Nf, s_Nr, s_Nn, s_af, s_ar, s_an, k0, k1, k2, k3, k4, k5, hn1, hn2, hn3]) (by simp [s_ff, s_fr, s_fn, s_rf, s_rr, s_rn, s_Kf, s_Kr, s_Kn, s_Nf, s_Nr, s_Nn, s_af, s_ar, s_an, k0, k1, k2, k3, k4, k5, hn1, hn2, hn3]) hz) (fun E h1 q => by cases q.1) (fun v h9 q => ?_)
  obtain ⟨e1, hR9, hF9⟩ := q; cases e1
  have e0 := hF9 (nC c) (by omega) (by omega) (by omega) (by omega)
  have k9 : zK h9 (nC c) = 2 + 1 := e0.1.trans (by simp [s_ff, s_fr, s_fn, s_rf, s_rr, s_rn, s_Kf, s_Kr, s_Kn, s_Nf, s_Nr, s_Nn, s_af, s_ar, s_an, k0, k1, k2, k3, k4, k5, hn1, hn2, hn3])
  refine e_putR dX1_init_26 flX1_30 (Or.inr ⟨rfl, rfl, rfl⟩) rfl k9 ?_
  refine e_aload_n dX1_init_29 rfl rfl ?_
  refine e_aload_n dX1_init_30 rfl rfl ?_
  refine e_getR dX1_init_31 flX1_30 rfl k9 (show z2 _ _ _ _ _ _ = some (nC c + 1) from z2_eq) ?_
  refine e_getR dX1_init_34 flX1_34 rfl (show zK h9 (nC c + 1) = 1 + 1 from hR9.1.1.1) hR9.1.1.2.1 ?_
  refine e_putR dX1_init_37 flX1_37 (Or.inr ⟨rfl, rfl, rfl⟩) rfl k9 ?_
  refine e_vret dX1_init_40 rfl (by decide) (by decide) ?_
  have g0 : zr h9 200 (nC c) = some (nS (S 35 c)) := (e0.2.2.2.2.1 200).trans (by simp [s_ff, s_fr, s_fn, s_rf, s_rr, s_rn, s_Kf, s_Kr, s_Kn, s_Nf, s_Nr, s_Nn, s_af, s_ar, s_an, k0, k1, k2, k3, k4, k5, hn1, hn2, hn3])
  have g3 : zf h9 203 (nC c) = b := (e0.2.2.1 203).trans (by simp [s_ff, s_fr, s_fn, s_rf, s_rr, s_rn, s_Kf, s_Kr, s_Kn, s_Nf, s_Nr, s_Nn, s_af, s_ar, s_an, k0, k1, k2, k3, k4, k5, hn1, hn2, hn3])
  have g4 : zf h9 204 (nC c) = 0 := (e0.2.2.1 204).trans (by simp [s_ff, s_fr, s_fn, s_rf, s_rr, s_rn, s_Kf, s_Kr, s_Kn, s_Nf, s_Nr, s_Nn, s_af, s_ar, s_an, k0, k1, k2, k3, k4, k5, hn1, hn2, hn3, f4])
  have g5 : zf h9 205 (nC c) = 0 := (e0.2.2.1 205).trans (by simp [s_ff, s_fr, s_fn, s_rf, s_rr, s_rn, s_Kf, s_Kr, s_Kn, s_Nf, s_Nr, s_Nn, s_af, s_ar, s_an, k0, k1, k2, k3, k4, k5, hn1, hn2, hn3, f5])
  have g6 : zf h9 206 (nC c) = 0 := (e0.2.2.1 206).trans (by simp [s_ff, s_fr, s_fn, s_rf, s_rr, s_rn, s_Kf, s_Kr, s_Kn, s_Nf, s_Nr, s_Nn, s_af, s_ar, s_an, k0, k1, k2, k3, k4, k5, hn1, hn2, hn3, f6])
  have hR8 : RCh S (sr (sr h9 202 (nC c) (some (nC c + 1))) 201 (nC c) (some (nC c + 2))) c := RCh_at (eqAt_tr (eqAt_sr (by omega)) (eqAt_sr (by omega))) (eqAt_tr (eqAt_sr (by omega)) (eqAt_sr (by omega))) (eqAt_tr (eqAt_sr (by omega)) (eqAt_sr (by omega))) (eqAt_tr (eqAt_sr (by omega)) (eqAt_sr (by omega))) hR9
  refine ⟨rfl, ⟨k9, ?_, ?_, ?_, ?_, ?_, ?_, ?_⟩, hR8, fun m m0 m1 m2 m3 m4 => ?_⟩
  · simp [s_rr, g0]
  · simp [s_rr]
  · simp [s_rr]
  · exact g3.trans b6.symm
  · exact g4.trans b7.symm
  · exact g5.trans b8.symm
  · exact g6.trans b9.symm
  · exact eqAt_tr (eqAt_tr (eqAt_tr (eqAt_tr (eqAt_sr m0) (eqAt_sf m0)) (eqAt_nw m1)) (hF9 m m1 m2 m3 m4)) (eqAt_tr (eqAt_sr m0) (eqAt_sr m0))
