set_option maxHeartbeats 4000000 in
set_option maxRecDepth 100000 in
theorem c_X5_advanceMove {l : Launch} (hl : l.stackTraces = false) {S : S9} {h : zH} {s : Int} (hso : RSo S h s) (hT : RT S h s) (hC : RCo h s (screenAt S s)) (hb : ∀ r, S 29 r = 0 ∨ S 29 r = 1) (hr : S 26 s = 0 ∨ S 26 s = 1) (hB : 0 ≤ S 28 s ∧ S 28 s ≤ 1000000000)  : zC l MX5_advanceMove [zR (some (nS s))] h (fun o h' => o = .inl none ∧ RT (rowsS S s) h' s ∧ zf h' 608 (nS s) = rowsS S s 27 s ∧ RSo (rowsS S s) h' s ∧ ∀ m, m ≠ nS s → m ≠ nS s + 6 → m ≠ nS s + 7 → m ≠ nS s + 8 → eqAt m h h') := by
  refine zC_of hl rfl rfl (by decide) rfl rfl (Nat.le_of_ble_eq_true rfl) ?_
  obtain ⟨o1, o2, o3, o4, o5, o6, o7, o8, o9⟩ := id hso
  obtain ⟨⟨p1, p2, p3, p4, p5⟩, -⟩ := id hT
  refine e_aload_n dX5_advanceMove_0 rfl rfl ?_
  refine e_aload_n dX5_advanceMove_1 rfl rfl ?_
  refine e_getR dX5_advanceMove_2 flX5_41 rfl (show zK h (nS s) = 6 + 1 from o1) o7 ?_
  refine e_getI dX5_advanceMove_5 flX5_116 rfl (show zK h (nS s + 6) = 7 + 1 from p1) p4 (fun r5 => ?_)
  refine e_if_eq (tgt := 29) dX5_advanceMove_8 (by decide) (by omega) (fun c8 => ?_) (fun c8 => ?_)
  · skip
    try simp only [b2_0, b2_n0] at c8
    refine e_iconst dX5_advanceMove_29 ?_
    refine e_putI dX5_advanceMove_30 flX5_123 (Or.inl rfl) (by first | exact Or.inl rfl | exact Or.inr rfl | assumption) (show zK _ (nS s) = 6 + 1 from o1) (by omega) ?_
    refine e_vret dX5_advanceMove_33 rfl (by decide) (by decide) ?_
    first
      | (have er : rowsS S s = up S 27 s 0 := by unfold rowsS; rw [if_neg (by omega), if_neg (by omega)]
         refine ⟨rfl, RT_at (eqAt_sf (by omega)) (eqAt_sf (by omega)) (eqAt_sf (by omega)) ?_, ?_, RSo_hd (fun j => rowsS_g (by decide)) (fun j => rowsS_g (by decide)) hso, fun m m1 m2 m3 m4 => eqAt_sf m1⟩
         · rw [er]; exact RT_agf (fun f hf j => up_f (by omega)) hT
         · rw [rowsS_h27, b2_f (by omega)]; exact z2_eq
         done)
      | (refine ⟨rfl, RT_at (eqAt_sf (by omega)) (eqAt_sf (by omega)) (eqAt_sf (by omega)) g2, ?_, RSo_hd (fun j => rowsS_g (by decide)) (fun j => rowsS_g (by decide)) (RSo_at (g3 _ (by omega) (by omega) (by omega)) hso), fun m m1 m2 m3 m4 => eqAt_tr (g3 m m2 m3 m4) (eqAt_sf m1)⟩
         rw [rowsS_h27]
         first
           | (rw [b2_t (by omega)]; exact z2_eq; done)
           | (rw [b2_f (by omega)]; exact z2_eq; done))
  · skip
    try simp only [b2_0, b2_n0] at c8
    refine e_aload_n dX5_advanceMove_11 rfl rfl ?_
    refine e_getR dX5_advanceMove_12 flX5_41 rfl (show zK h (nS s) = 6 + 1 from o1) o7 ?_
    refine e_aload_n dX5_advanceMove_15 rfl rfl ?_
    refine e_getR dX5_advanceMove_16 flX5_27 rfl (show zK h (nS s) = 6 + 1 from o1) o5 ?_
    refine e_callV (As := [zR _]) (cb := 7) dX5_advanceMove_19 moX6_advance mvX6_advance mlX5_119 (by decide) rfl (show zK h (nS s + 6) = 7 + 1 from p1) rfl (Nat.le_of_ble_eq_true rfl) ⟨by decide, by decide, by decide, by decide⟩ (c_X6_advance hl hT hC hb (by omega) hB) (fun E h1 q => by cases q.1) (fun v h1 q => ?_)
    obtain ⟨e1, g2, g3⟩ := q; cases e1
    have o1 := (g3 (nS s) (by omega) (by omega) (by omega)).1.trans o1
    refine e_if_eq (tgt := 29) dX5_advanceMove_22 (by decide) b2_in (fun c22 => ?_) (fun c22 => ?_)
    · skip
      try simp only [b2_0, b2_n0] at c22
      refine e_iconst dX5_advanceMove_29 ?_
      refine e_putI dX5_advanceMove_30 flX5_123 (Or.inl rfl) (by first | exact Or.inl rfl | exact Or.inr rfl | assumption) (show zK _ (nS s) = 6 + 1 from o1) (by omega) ?_
      refine e_vret dX5_advanceMove_33 rfl (by decide) (by decide) ?_
      first
        | (have er : rowsS S s = up S 27 s 0 := by unfold rowsS; rw [if_neg (by omega), if_neg (by omega)]
           refine ⟨rfl, RT_at (eqAt_sf (by omega)) (eqAt_sf (by omega)) (eqAt_sf (by omega)) ?_, ?_, RSo_hd (fun j => rowsS_g (by decide)) (fun j => rowsS_g (by decide)) hso, fun m m1 m2 m3 m4 => eqAt_sf m1⟩
           · rw [er]; exact RT_agf (fun f hf j => up_f (by omega)) hT
           · rw [rowsS_h27, b2_f (by omega)]; exact z2_eq
           done)
        | (refine ⟨rfl, RT_at (eqAt_sf (by omega)) (eqAt_sf (by omega)) (eqAt_sf (by omega)) g2, ?_, RSo_hd (fun j => rowsS_g (by decide)) (fun j => rowsS_g (by decide)) (RSo_at (g3 _ (by omega) (by omega) (by omega)) hso), fun m m1 m2 m3 m4 => eqAt_tr (g3 m m2 m3 m4) (eqAt_sf m1)⟩
           rw [rowsS_h27]
           first
             | (rw [b2_t (by omega)]; exact z2_eq; done)
             | (rw [b2_f (by omega)]; exact z2_eq; done))
    · skip
      try simp only [b2_0, b2_n0] at c22
      refine e_iconst dX5_advanceMove_25 ?_
      refine e_goto (tgt := 30) dX5_advanceMove_26 (by decide) ?_
      refine e_putI dX5_advanceMove_30 flX5_123 (Or.inl rfl) (by first | exact Or.inl rfl | exact Or.inr rfl | assumption) (show zK _ (nS s) = 6 + 1 from o1) (by omega) ?_
      refine e_vret dX5_advanceMove_33 rfl (by decide) (by decide) ?_
      first
        | (have er : rowsS S s = up S 27 s 0 := by unfold rowsS; rw [if_neg (by omega), if_neg (by omega)]
           refine ⟨rfl, RT_at (eqAt_sf (by omega)) (eqAt_sf (by omega)) (eqAt_sf (by omega)) ?_, ?_, RSo_hd (fun j => rowsS_g (by decide)) (fun j => rowsS_g (by decide)) hso, fun m m1 m2 m3 m4 => eqAt_sf m1⟩
           · rw [er]; exact RT_agf (fun f hf j => up_f (by omega)) hT
           · rw [rowsS_h27, b2_f (by omega)]; exact z2_eq
           done)
        | (refine ⟨rfl, RT_at (eqAt_sf (by omega)) (eqAt_sf (by omega)) (eqAt_sf (by omega)) g2, ?_, RSo_hd (fun j => rowsS_g (by decide)) (fun j => rowsS_g (by decide)) (RSo_at (g3 _ (by omega) (by omega) (by omega)) hso), fun m m1 m2 m3 m4 => eqAt_tr (g3 m m2 m3 m4) (eqAt_sf m1)⟩
           rw [rowsS_h27]
           first
             | (rw [b2_t (by omega)]; exact z2_eq; done)
             | (rw [b2_f (by omega)]; exact z2_eq; done))
