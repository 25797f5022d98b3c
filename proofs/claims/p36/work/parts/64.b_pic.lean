set_option maxHeartbeats 4000000 in
set_option maxRecDepth 100000 in
theorem c_X5_repaint {l : Launch} (hl : l.stackTraces = false) {S : S9} {h : zH} {s : Int} (hV : RV S h s) (hb : ∀ w, S 11 w = 0 ∨ S 11 w = 1) {q : Int → Int} (hc : RCo h s q)  : zC l MX5_repaint [zR (some (nS s))] h (fun o h' => o = .inl (some (zI (sg (fun p => b2 (q p ≠ screenAt S s p)) (96 : Int).toNat))) ∧ RCo h' s (screenAt S s) ∧ ∀ m, m ≠ nS s + 4 → eqAt m h h') := by
  refine zC_of hl rfl rfl (by decide) rfl rfl (Nat.le_of_ble_eq_true rfl) ?_
  obtain ⟨⟨s0, s1⟩, hN, hI, hO, hSo, hP, hWs⟩ := id hV
  obtain ⟨o1, o2, o3, o4, o5, o6, o7, o8, o9⟩ := id hSo
  have hn := hN.2.2.2.2 s s0 s1
  refine e_iconst dX5_repaint_0 ?_
  refine e_istore_n dX5_repaint_1 rfl (by decide) rfl rfl ?_
  refine e_iconst dX5_repaint_2 ?_
  refine e_istore_n dX5_repaint_3 rfl (by decide) rfl rfl ?_
  have lp4 : ∀ (d : Nat) (i v : Int) (h1 : zH), (96 - i).toNat < d → 0 ≤ i → i ≤ 96 → v = sg (fun p => b2 (q p ≠ screenAt S s p)) i.toNat → RCo h1 s (fun p => if p < i then screenAt S s p else q p) → (∀ m, m ≠ nS s + 4 → eqAt m h h1) → AW l MX5_repaint (fun o h' => o = .inl (some (zI (sg (fun p => b2 (q p ≠ screenAt S s p)) (96 : Int).toNat))) ∧ RCo h' s (screenAt S s) ∧ ∀ m, m ≠ nS s + 4 → eqAt m h h') 0 0 4 [zR (some (nS s)), zI v, zI i, zX] [] h1 := by
    intro d
    induction d with
    | zero => intro i v h1 hd i0 i1 hv hC1 hF1; exact absurd hd (by omega)
    | succ d ih =>
      have ih4 := ih
      intro i v h1 hd i0 i1 hv hC1 hF1
      have hV1 := RV_at hF1 hV
      obtain ⟨-, -, -, -, hSo1, -, -⟩ := id hV1
      obtain ⟨l1, l2, l3, l4, l5, l6, l7, l8, l9⟩ := id hSo1
      obtain ⟨t1, t2, t3⟩ := id hC1
      have cc := sg_in1 (f := (fun p => b2 (q p ≠ screenAt S s p))) (fun _ _ => b2_le) i i0
      refine e_iload_n dX5_repaint_4 rfl rfl ?_
      refine e_bipush dX5_repaint_5 (by decide) ?_
      refine e_icmp_ge (tgt := 42) dX5_repaint_7 (by decide) (by omega) (by omega) (fun c7 => ?_) (fun c7 => ?_)
      · skip
        refine e_iload_n dX5_repaint_42 rfl rfl ?_
        refine e_iret dX5_repaint_43 rfl trivial (by decide) (by decide) ?_
        exact ⟨zqe (by rw [hv, show i = 96 by omega]), RCo_eq (fun p p0 p1 => (if_pos (by omega)).symm) hC1, hF1⟩
      · skip
        refine e_aload_n dX5_repaint_10 rfl rfl ?_
        refine e_iload_n dX5_repaint_11 rfl rfl ?_
        refine e_callV (As := [zI _]) (cb := 6) dX5_repaint_12 moX5_colourOfWindows mvX5_colourOfWindows mlX5_83 (by decide) rfl (show zK h1 (nS s) = 6 + 1 from l1) rfl (Nat.le_of_ble_eq_true rfl) ⟨by decide, by decide, by decide, by decide⟩ (c_X5_colourOfWindows hl hV1 hb _ (by omega) (by omega)) (fun E h1 q => by cases q.1) (fun v h9 q => ?_)
        obtain ⟨e1, e2, e3⟩ := q; cases e1; rw [e2]; clear e2 h9
        refine e_istore_n dX5_repaint_15 rfl (by decide) rfl rfl ?_
        refine e_aload_n dX5_repaint_16 rfl rfl ?_
        refine e_getR dX5_repaint_17 flX5_27 rfl (by assumption) (by assumption) ?_
        refine e_iload_n dX5_repaint_20 rfl rfl ?_
        refine e_iald dX5_repaint_21 (show zK h1 (nS s + 4) = 100 from t1) (by omega) (by rw [t2]; omega) ((t3 i (by omega) (by omega)).trans (if_neg (by omega))) (fun r21 => ?_)
        refine e_iload_n dX5_repaint_22 rfl rfl ?_
        refine e_icmp_eq (tgt := 36) dX5_repaint_23 (by decide) (by omega) (by omega) (fun c23 => ?_) (fun c23 => ?_)
        · skip
          refine e_iinc dX5_repaint_36 (by decide) rfl rfl rfl rfl ?_
          refine e_goto (tgt := 4) dX5_repaint_39 (by decide) ?_
          refine e_mask [true, true, true, false] ?_
          refine ih4 _ _ _ (by omega) (by omega) (by omega) ?_ ?_ ?_
          · rw [sg_s i0, ← hv]
            first
              | (rw [b2_t (by omega)]; done)
              | (rw [b2_f (by omega), Int.add_zero]; done)
          · first
              | exact RCo_eq (fun p p0 p1 => by
                  by_cases z : p = i
                  · subst z; rw [if_pos (by omega), if_pos rfl]
                  · rw [if_neg z]
                    by_cases y : p < i
                    · rw [if_pos (by omega), if_pos y]
                    · rw [if_neg (by omega), if_neg y]) (RCo_st hC1)
              | exact RCo_eq (fun p p0 p1 => by
                  by_cases z : p = i
                  · subst z; rw [if_pos (by omega), if_neg (by omega)]; omega
                  · by_cases y : p < i
                    · rw [if_pos (by omega), if_pos y]
                    · rw [if_neg (by omega), if_neg y]) hC1
          · first
              | exact fun m m1 => eqAt_tr (hF1 m m1) (eqAt_sa m1)
              | exact hF1
        · skip
          refine e_aload_n dX5_repaint_26 rfl rfl ?_
          refine e_getR dX5_repaint_27 flX5_27 rfl (by assumption) (by assumption) ?_
          refine e_iload_n dX5_repaint_30 rfl rfl ?_
          refine e_iload_n dX5_repaint_31 rfl rfl ?_
          refine e_iast dX5_repaint_32 (show zK h1 (nS s + 4) = 100 from t1) (by omega) (by rw [t2]; omega) e3 ?_
          refine e_iinc dX5_repaint_33 (by decide) rfl rfl rfl rfl ?_
          refine e_iinc dX5_repaint_36 (by decide) rfl rfl rfl rfl ?_
          refine e_goto (tgt := 4) dX5_repaint_39 (by decide) ?_
          refine e_mask [true, true, true, false] ?_
          refine ih4 _ _ _ (by omega) (by omega) (by omega) ?_ ?_ ?_
          · rw [sg_s i0, ← hv]
            first
              | (rw [b2_t (by omega)]; done)
              | (rw [b2_f (by omega), Int.add_zero]; done)
          · first
              | exact RCo_eq (fun p p0 p1 => by
                  by_cases z : p = i
                  · subst z; rw [if_pos (by omega), if_pos rfl]
                  · rw [if_neg z]
                    by_cases y : p < i
                    · rw [if_pos (by omega), if_pos y]
                    · rw [if_neg (by omega), if_neg y]) (RCo_st hC1)
              | exact RCo_eq (fun p p0 p1 => by
                  by_cases z : p = i
                  · subst z; rw [if_pos (by omega), if_neg (by omega)]; omega
                  · by_cases y : p < i
                    · rw [if_pos (by omega), if_pos y]
                    · rw [if_neg (by omega), if_neg y]) hC1
          · first
              | exact fun m m1 => eqAt_tr (hF1 m m1) (eqAt_sa m1)
              | exact hF1
  exact lp4 97 0 0 h (by decide) (by decide) (by decide) rfl (RCo_eq (fun p p0 p1 => if_neg (by omega)) hc) (fun m _ => eqAt_rf)
set_option maxHeartbeats 4000000 in
set_option maxRecDepth 100000 in
theorem c_X5_isPainted {l : Launch} (hl : l.stackTraces = false) {S : S9} {h : zH} {s : Int} (hV : RV S h s) (hb : ∀ w, S 11 w = 0 ∨ S 11 w = 1) {q : Int → Int} (hc : RCo h s q)  : zC l MX5_isPainted [zR (some (nS s))] h (fun o h' => o = .inl (some (zI (b2 (sg (fun p => b2 (q p ≠ screenAt S s p)) (96 : Int).toNat = 0)))) ∧ h' = h) := by
  refine zC_of hl rfl rfl (by decide) rfl rfl (Nat.le_of_ble_eq_true rfl) ?_
  obtain ⟨⟨s0, s1⟩, hN, hI, hO, hSo, hP, hWs⟩ := id hV
  obtain ⟨o1, o2, o3, o4, o5, o6, o7, o8, o9⟩ := id hSo
  have hn := hN.2.2.2.2 s s0 s1
  obtain ⟨t1, t2, t3⟩ := id hc
  refine e_iconst dX5_isPainted_0 ?_
  refine e_istore_n dX5_isPainted_1 rfl (by decide) rfl rfl ?_
  have lp2 : ∀ (d : Nat) (i : Int), (96 - i).toNat < d → 0 ≤ i → i ≤ 96 → sg (fun p => b2 (q p ≠ screenAt S s p)) i.toNat = 0 → AW l MX5_isPainted (fun o h' => o = .inl (some (zI (b2 (sg (fun p => b2 (q p ≠ screenAt S s p)) (96 : Int).toNat = 0)))) ∧ h' = h) 0 0 2 [zR (some (nS s)), zI i] [] h := by
    intro d
    induction d with
    | zero => intro i hd i0 i1 hv; exact absurd hd (by omega)
    | succ d ih =>
      have ih2 := ih
      intro i hd i0 i1 hv
      refine e_iload_n dX5_isPainted_2 rfl rfl ?_
      refine e_bipush dX5_isPainted_3 (by decide) ?_
      refine e_icmp_ge (tgt := 30) dX5_isPainted_5 (by decide) (by omega) (by omega) (fun c5 => ?_) (fun c5 => ?_)
      · skip
        refine e_iconst dX5_isPainted_30 ?_
        refine e_iret dX5_isPainted_31 rfl (by first | exact Or.inl rfl | exact Or.inr rfl | assumption | exact b2_01) (by decide) (by decide) ?_
        exact ⟨zqe (by rw [b2_t (by rw [← show i = 96 by omega]; exact hv)]), rfl⟩
      · skip
        refine e_aload_n dX5_isPainted_8 rfl rfl ?_
        refine e_getR dX5_isPainted_9 flX5_27 rfl (by assumption) (by assumption) ?_
        refine e_iload_n dX5_isPainted_12 rfl rfl ?_
        refine e_iald dX5_isPainted_13 (show zK h (nS s + 4) = 100 from t1) (by omega) (by rw [t2]; omega) (t3 i (by omega) (by omega)) (fun r13 => ?_)
        refine e_aload_n dX5_isPainted_14 rfl rfl ?_
        refine e_iload_n dX5_isPainted_15 rfl rfl ?_
        refine e_callV (As := [zI _]) (cb := 6) dX5_isPainted_16 moX5_colourOfWindows mvX5_colourOfWindows mlX5_83 (by decide) rfl (show zK h (nS s) = 6 + 1 from o1) rfl (Nat.le_of_ble_eq_true rfl) ⟨by decide, by decide, by decide, by decide⟩ (c_X5_colourOfWindows hl hV hb _ (by omega) (by omega)) (fun E h1 q => by cases q.1) (fun v h9 q => ?_)
        obtain ⟨e1, e2, e3⟩ := q; cases e1; rw [e2]; clear e2 h9
        refine e_icmp_eq (tgt := 24) dX5_isPainted_19 (by decide) (by omega) (by omega) (fun c19 => ?_) (fun c19 => ?_)
        · skip
          refine e_iinc dX5_isPainted_24 (by decide) rfl rfl rfl rfl ?_
          refine e_goto (tgt := 2) dX5_isPainted_27 (by decide) ?_
          refine ih2 _ (by omega) (by omega) (by omega) ?_
          rw [sg_s i0, hv, b2_f (by omega)]
          rfl
        · skip
          refine e_iconst dX5_isPainted_22 ?_
          refine e_iret dX5_isPainted_23 rfl (by first | exact Or.inl rfl | exact Or.inr rfl | assumption | exact b2_01) (by decide) (by decide) ?_
          have mo : sg (fun p => b2 (q p ≠ screenAt S s p)) (i + 1).toNat ≤ sg (fun p => b2 (q p ≠ screenAt S s p)) (96 : Int).toNat := sg_mono (fun _ => b2_le.1) (by omega)
          have e8 := sg_s (f := (fun p => b2 (q p ≠ screenAt S s p))) i0
          rw [b2_t (by omega)] at e8
          exact ⟨zqe (b2_f (by omega)).symm, rfl⟩
  exact lp2 97 0 (by decide) (by decide) (by decide) rfl
