set_option maxHeartbeats 4000000 in
set_option maxRecDepth 100000 in
theorem c_X5_addWindow {l : Launch} (hl : l.stackTraces = false) {S S' : S9} {h : zH} {s : Int} (hV : RV S h s) (hn : RWn S h s) {q : Int → Int} (hc : RCo h s q) (h4 : S 4 s < 6) (g4 : S' 4 s = S 4 s + 1) (g16 : S' 16 s = S 16 s + 1) (g31 : S' 31 s = S 31 s) (g15 : S' 15 (6 * s + S 16 s) = 6 * s + S 4 s) (gq : ∀ j, 0 ≤ j → j < S 16 s → S' 15 (6 * s + j) = S 15 (6 * s + j)) (hN' : IN S') (hI' : IW S') (hO' : IO S') (hb' : ∀ w, S' 11 w = 0 ∨ S' 11 w = 1) (hWs' : RWs S' h s)  : zC l MX5_addWindow [zR (some (nS s)), zR (some (nW (6 * s + S 4 s)))] h (fun o h' => o = .inl (some (zI (S 4 s))) ∧ RV S' h' s ∧ RWn S' h' s ∧ RCo h' s (screenAt S' s) ∧ ∀ m, m ≠ nS s → m ≠ nS s + 1 → m ≠ nS s + 2 → m ≠ nS s + 4 → m ≠ nS s + 15 → eqAt m h h') := by
  refine zC_of hl rfl rfl (by decide) rfl rfl (Nat.le_of_ble_eq_true rfl) ?_
  obtain ⟨⟨s0, s1⟩, hN, hI, hO, hSo, ⟨ed, cp, hL, hed⟩, hWs⟩ := id hV
  obtain ⟨o1, o2, o3, o4, o5, o6, o7, o8, o9⟩ := id hSo
  obtain ⟨n1, n2, n3⟩ := id hn
  have hn4 := hN.2.2.2.2 s s0 s1
  obtain ⟨b, hb⟩ : ∃ b, b = nW (6 * s + S 4 s) := ⟨_, rfl⟩
  have hkb : zK h b = 8 + 1 := by rw [hb]; exact (hWs' (6 * s + S 4 s) (by rw [hasW, g4]; omega)).1
  have hbn : b ≠ nS s ∧ b ≠ nS s + 1 ∧ b ≠ nS s + 2 ∧ b ≠ nS s + 15 := by rw [hb]; unfold nW nS; omega
  rw [← hb]
  refine e_aload_n dX5_addWindow_0 rfl rfl ?_
  refine e_getI dX5_addWindow_1 flX5_45 rfl (by assumption) o9 (fun r1 => ?_)
  refine e_istore_n dX5_addWindow_4 rfl (by decide) rfl rfl ?_
  refine e_iload_n dX5_addWindow_5 rfl rfl ?_
  refine e_bipush dX5_addWindow_6 (by decide) ?_
  refine e_icmp_ge (tgt := 39) dX5_addWindow_8 (by decide) (by omega) (by omega) (fun c8 => ?_) (fun c8 => ?_)
  · skip
    exfalso; omega
  · skip
    refine e_aload_n dX5_addWindow_11 rfl rfl ?_
    refine e_getR dX5_addWindow_12 flX5_11 rfl (by assumption) o2 ?_
    refine e_iload_n dX5_addWindow_15 rfl rfl ?_
    refine e_aload_n dX5_addWindow_16 rfl rfl ?_
    refine e_aast (t := 6) dX5_addWindow_17 n1 (by omega) (by rw [n2]; omega) hkb (Or.inr (Or.inr ⟨rfl, rfl⟩)) ?_
    refine e_aload_n dX5_addWindow_18 rfl rfl ?_
    refine e_iload_n dX5_addWindow_19 rfl rfl ?_
    refine e_iconst dX5_addWindow_20 ?_
    refine e_iadd dX5_addWindow_21 ?_
    refine e_putI dX5_addWindow_22 flX5_45 (Or.inl rfl) trivial (show zK h (nS s) = 6 + 1 from o1) (by omega) ?_
    have hSo2 := RSo_add (w := some b) g4 g31 hSo
    have hn2 : RWn S' (sf (sq h (nS s + 1) (S 4 s) (some b)) 607 (nS s) (S 4 s + 1)) s := by rw [hb]; exact RWn_add g4 hn
    have hF2 : ∀ m, m ≠ nS s → m ≠ nS s + 1 → eqAt m h (sf (sq h (nS s + 1) (S 4 s) (some b)) 607 (nS s) (S 4 s + 1)) := fun m m1 m2 => eqAt_tr (eqAt_sq m2) (eqAt_sf m1)
    generalize sf (sq h (nS s + 1) (S 4 s) (some b)) 607 (nS s) (S 4 s + 1) = h2 at hSo2 hn2 hF2 ⊢
    obtain ⟨p1, p2, p3, p4, p5, p6, p7, p8, p9⟩ := id hSo2
    have hL2 : LA h2 (nS s + 2) ed cp (S 16 s) (pileQ S s) := LA_at (hF2 _ (by omega) (by omega)) (fun z => hF2 _ (by omega) (by omega)) hL
    have hG : GW l h2 (nS s + 2) ed cp (S 16 s) (pileQ S s) (nS s + 15) 10 := by
      rcases hed with ⟨z1, z2⟩ | ⟨z1, z2⟩
      · subst z1
        exact GW_first hl hL2 _ (by omega) ((hF2 _ (by omega) (by omega)).1.trans z2) (by omega)
      · subst z1
        subst z2
        exact GW_room (by omega)
    have hcp : cp ≤ 1000 := by
      rcases hed with z | z
      · rcases hL.2.2.2.2.1 with y | y <;> omega
      · omega
    refine e_aload_n dX5_addWindow_25 rfl rfl ?_
    refine e_getR dX5_addWindow_26 flX5_20 rfl p1 p3 ?_
    refine e_aload_n dX5_addWindow_29 rfl rfl ?_
    refine e_callV (As := [zR _]) (cb := 0) dX5_addWindow_30 moJx4a65c_add_9ea2d mvJx4a65c_add_9ea2d mlX5_49 (by decide) rfl (show zK h2 (nS s + 2) = 0 + 1 from hL2.1) rfl (Nat.le_of_ble_eq_true rfl) ⟨by decide, by decide, by decide, by decide⟩ (c_Jx4a65c_add_9ea2d hl hL2 hG (by omega) (by decide) hcp b 8 (by decide) (by decide) ((hF2 b hbn.1 hbn.2.1).1.trans hkb) hbn.2.2.1 hbn.2.2.2) (fun E h1 q => by cases q.1) (fun v h1 q => ?_)
    obtain ⟨e1, hL3, hF3⟩ := q; cases e1
    have hF4 : ∀ m, m ≠ nS s → m ≠ nS s + 1 → m ≠ nS s + 2 → m ≠ nS s + 15 → eqAt m h h1 := fun m m1 m2 m3 m4 => eqAt_tr (hF2 m m1 m2) (hF3 m m3 m4)
    have hP3 : RP S' h1 s := ⟨nS s + 15, 10, LA_eqq g16 (fun j j0 j1 => by
      unfold pileQ
      by_cases z : j = S 16 s
      · rw [if_pos z, z, g15, hb]
      · rw [if_neg z, gq j j0 (by omega)]) hL3, Or.inr ⟨rfl, rfl⟩⟩
    have hV3 : RV S' h1 s := ⟨⟨s0, s1⟩, hN', hI', hO', RSo_at (hF3 _ (by omega) (by omega)) hSo2, hP3, RWs_at (fun w hw => by
      unfold nW nS at *
      exact ⟨hF4 _ (by omega) (by omega) (by omega) (by omega), hF4 _ (by omega) (by omega) (by omega) (by omega)⟩) hWs'⟩
    have hc3 : RCo h1 s q := RCo_at (hF4 _ (by omega) (by omega) (by omega) (by omega)) hc
    have hk3 := hV3.2.2.2.2.1.1
    refine e_pop dX5_addWindow_33 rfl ?_
    refine e_aload_n dX5_addWindow_34 rfl rfl ?_
    refine e_callV (As := []) (cb := 6) dX5_addWindow_35 moX5_repaint mvX5_repaint mlX5_53 (by decide) rfl (show zK h1 (nS s) = 6 + 1 from hk3) rfl (Nat.le_of_ble_eq_true rfl) ⟨by decide, by decide, by decide, by decide⟩ (c_X5_repaint hl hV3 hb' hc3) (fun E h1 q => by cases q.1) (fun v h1 q => ?_)
    obtain ⟨e1, hC9, hF9⟩ := q; cases e1
    refine e_pop dX5_addWindow_38 rfl ?_
    refine e_iload_n dX5_addWindow_39 rfl rfl ?_
    refine e_iret dX5_addWindow_40 rfl trivial (by decide) (by decide) ?_
    exact ⟨rfl, RV_at hF9 hV3, RWn_at (hF9 _ (by omega)) (RWn_at (hF3 _ (by omega) (by omega)) hn2), hC9, fun m m1 m2 m3 m4 m5 => eqAt_tr (hF4 m m1 m2 m3 m5) (hF9 m m4)⟩
