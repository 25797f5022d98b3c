set_option maxHeartbeats 4000000 in
set_option maxRecDepth 100000 in
theorem c_X5_isOnTop {l : Launch} (hl : l.stackTraces = false) {S : S9} {h : zH} {s : Int} (hV : RV S h s) (w : Int) (hw : 0 ≤ w) : zC l MX5_isOnTop [zR (some (nS s)), zR (some (nW w))] h (fun o h' => o = .inl (some (zI (b2 (0 < S 16 s ∧ S 15 (6 * s + (S 16 s - 1)) = w)))) ∧ h' = h) := by
  refine zC_of hl rfl rfl (by decide) rfl rfl (Nat.le_of_ble_eq_true rfl) ?_
  obtain ⟨⟨s0, s1⟩, hN, hI, hO, hSo, ⟨ed, cp, hL, hed⟩, hWs⟩ := id hV
  obtain ⟨o1, o2, o3, o4, o5, o6, o7, o8, o9⟩ := id hSo
  have hL1 := hL.1
  have hn := hN.2.2.2.2 s s0 s1
  refine e_aload_n dX5_isOnTop_0 rfl rfl ?_
  refine e_getR dX5_isOnTop_1 flX5_20 rfl (by assumption) (by assumption) ?_
  refine e_callV (As := []) (cb := 0) dX5_isOnTop_4 moJx4a65c_size_8abf5 mvJx4a65c_size_8abf5 mlX5_57 (by decide) rfl (show zK h (nS s + 2) = 0 + 1 from hL1) rfl (Nat.le_of_ble_eq_true rfl) ⟨by decide, by decide, by decide, by decide⟩ (c_Jx4a65c_size_8abf5 hl hL) (fun E h1 q => by cases q.1) (fun v h9 q => ?_)
  obtain ⟨e1, e2⟩ := q; cases e1; rw [e2]; clear e2 h9
  refine e_istore_n dX5_isOnTop_7 rfl (by decide) rfl rfl ?_
  refine e_iload_n dX5_isOnTop_8 rfl rfl ?_
  refine e_if_le (tgt := 30) dX5_isOnTop_9 (by decide) (by omega) (fun c9 => ?_) (fun c9 => ?_)
  · skip
    refine e_iconst dX5_isOnTop_30 ?_
    refine e_iret dX5_isOnTop_31 rfl (by first | exact Or.inl rfl | exact Or.inr rfl | assumption | exact b2_01) (by decide) (by decide) ?_
    first
      | exact ⟨zqe (b2_f (by omega)).symm, rfl⟩
      | exact ⟨zqe (b2_t ⟨by omega, nW_i hq hw c23⟩).symm, rfl⟩
      | exact ⟨zqe (b2_f (fun z => c23 (nW_e z.2))).symm, rfl⟩
  · skip
    refine e_aload_n dX5_isOnTop_12 rfl rfl ?_
    refine e_getR dX5_isOnTop_13 flX5_20 rfl (by assumption) (by assumption) ?_
    refine e_iload_n dX5_isOnTop_16 rfl rfl ?_
    refine e_iconst dX5_isOnTop_17 ?_
    refine e_isub dX5_isOnTop_18 ?_
    refine e_callV (As := [zI _]) (cb := 0) dX5_isOnTop_19 moJx4a65c_get_915e3 mvJx4a65c_get_915e3 mlX5_60 (by decide) rfl (show zK h (nS s + 2) = 0 + 1 from hL1) rfl (Nat.le_of_ble_eq_true rfl) ⟨by decide, by decide, by decide, by decide⟩ (c_Jx4a65c_get_915e3 hl hL _ (by omega) (by omega)) (fun E h1 q => by cases q.1) (fun v h9 q => ?_)
    obtain ⟨e1, e2⟩ := q; cases e1; rw [e2]; clear e2 h9
    refine e_aload_n dX5_isOnTop_22 rfl rfl ?_
    have hq := IO_hasW hO s0 s1 (i := S 16 s - 1) (by omega) (by omega)
    refine e_acmp_ne (tgt := 30) dX5_isOnTop_23 (by decide) (fun c23 => ?_) (fun c23 => ?_)
    · skip
      refine e_iconst dX5_isOnTop_30 ?_
      refine e_iret dX5_isOnTop_31 rfl (by first | exact Or.inl rfl | exact Or.inr rfl | assumption | exact b2_01) (by decide) (by decide) ?_
      first
        | exact ⟨zqe (b2_f (by omega)).symm, rfl⟩
        | exact ⟨zqe (b2_t ⟨by omega, nW_i hq hw c23⟩).symm, rfl⟩
        | exact ⟨zqe (b2_f (fun z => c23 (nW_e z.2))).symm, rfl⟩
    · skip
      refine e_iconst dX5_isOnTop_26 ?_
      refine e_goto (tgt := 31) dX5_isOnTop_27 (by decide) ?_
      refine e_iret dX5_isOnTop_31 rfl (by first | exact Or.inl rfl | exact Or.inr rfl | assumption | exact b2_01) (by decide) (by decide) ?_
      first
        | exact ⟨zqe (b2_f (by omega)).symm, rfl⟩
        | exact ⟨zqe (b2_t ⟨by omega, nW_i hq hw c23⟩).symm, rfl⟩
        | exact ⟨zqe (b2_f (fun z => c23 (nW_e z.2))).symm, rfl⟩
set_option maxHeartbeats 4000000 in
set_option maxRecDepth 100000 in
theorem c_X5_takeFromPile {l : Launch} (hl : l.stackTraces = false) {S : S9} {h : zH} {s : Int} (hV : RV S h s) (w p : Int) (hw : 0 ≤ w) (hp : posO S s w p) : zC l MX5_takeFromPile [zR (some (nS s)), zR (some (nW w))] h (fun o h' => o = .inl none ∧ RP (tkO S s p) h' s ∧ ∀ m, m ≠ nS s + 2 → m ≠ nS s + 15 → eqAt m h h') := by
  refine zC_of hl rfl rfl (by decide) rfl rfl (Nat.le_of_ble_eq_true rfl) ?_
  obtain ⟨⟨s0, s1⟩, hN, hI, hO, hSo, ⟨ed, cp, hL, hed⟩, hWs⟩ := id hV
  obtain ⟨o1, o2, o3, o4, o5, o6, o7, o8, o9⟩ := id hSo
  have hL1 := hL.1
  have hn := hN.2.2.2.2 s s0 s1
  obtain ⟨p0, p1, p2, p3⟩ := id hp
  have hed : 0 < ed ∧ ed = nS s + 15 ∧ cp = 10 := by
    rcases hed with z | z
    · have := hL.2.2.2.1; rcases hL.2.2.2.2.1 with y | y <;> omega
    · omega
  refine e_aload_n dX5_takeFromPile_0 rfl rfl ?_
  refine e_getR dX5_takeFromPile_1 flX5_20 rfl (by assumption) (by assumption) ?_
  refine e_callV (As := []) (cb := 0) dX5_takeFromPile_4 moJx4a65c_size_8abf5 mvJx4a65c_size_8abf5 mlX5_57 (by decide) rfl (show zK h (nS s + 2) = 0 + 1 from hL1) rfl (Nat.le_of_ble_eq_true rfl) ⟨by decide, by decide, by decide, by decide⟩ (c_Jx4a65c_size_8abf5 hl hL) (fun E h1 q => by cases q.1) (fun v h9 q => ?_)
  obtain ⟨e1, e2⟩ := q; cases e1; rw [e2]; clear e2 h9
  refine e_iconst dX5_takeFromPile_7 ?_
  refine e_isub dX5_takeFromPile_8 ?_
  refine e_istore_n dX5_takeFromPile_9 rfl (by decide) rfl rfl ?_
  have lp10 : ∀ (d : Nat) (i len1 : Int) (h1 : zH) (q1 : Int → Option Nat), (i + 1).toNat < d → -1 ≤ i → i < len1 → LA h1 (nS s + 2) ed cp len1 q1 → (∀ j, 0 ≤ j → j ≤ i → q1 j = some (nW (S 15 (6 * s + j)))) → ((p ≤ i ∧ len1 = S 16 s ∧ q1 = pileQ S s) ∨ (i < p ∧ len1 = S 16 s - 1 ∧ q1 = fun j => if j < p then pileQ S s j else pileQ S s (j + 1))) → zK h1 (nS s) = 7 → zr h1 601 (nS s) = some (nS s + 2) → (∀ m, m ≠ nS s + 2 → m ≠ ed → eqAt m h h1) → AW l MX5_takeFromPile (fun o h' => o = .inl none ∧ RP (tkO S s p) h' s ∧ ∀ m, m ≠ nS s + 2 → m ≠ nS s + 15 → eqAt m h h') 0 0 10 [zR (some (nS s)), zR (some (nW w)), zI i] [] h1 := by
    intro d
    induction d with
    | zero => intro i len1 h1 q1 hd i0 i1 hL2 hq hz hk hr hF; exact absurd hd (by omega)
    | succ d ih =>
      have ih10 := ih
      intro i len1 h1 q1 hd i0 i1 hL2 hq hz hk hr hF
      have hL3 := hL2.1
      have hL4 := hL2.2.2.2.1
      refine e_iload_n dX5_takeFromPile_10 rfl rfl ?_
      refine e_if_lt (tgt := 41) dX5_takeFromPile_11 (by decide) (by omega) (fun c11 => ?_) (fun c11 => ?_)
      · skip
        refine e_vret dX5_takeFromPile_41 rfl (by decide) (by decide) ?_
        rcases hz with z | z
        · omega
        · exact ⟨rfl, ⟨ed, cp, LA_eqq (by rw [tkO_n]; omega) (fun j j0 j1 => by rw [tkO_q p0 j0 (by omega), z.2.2]) hL2, Or.inr hed.2⟩, fun m m1 m2 => hF m m1 (by omega)⟩
      · skip
        refine e_aload_n dX5_takeFromPile_14 rfl rfl ?_
        refine e_getR dX5_takeFromPile_15 flX5_20 rfl (by assumption) (by assumption) ?_
        refine e_iload_n dX5_takeFromPile_18 rfl rfl ?_
        refine e_callV (As := [zI _]) (cb := 0) dX5_takeFromPile_19 moJx4a65c_get_915e3 mvJx4a65c_get_915e3 mlX5_60 (by decide) rfl (show zK h1 (nS s + 2) = 0 + 1 from hL3) rfl (Nat.le_of_ble_eq_true rfl) ⟨by decide, by decide, by decide, by decide⟩ (c_Jx4a65c_get_915e3 hl hL2 _ (by omega) (by omega)) (fun E h1 q => by cases q.1) (fun v h9 q => ?_)
        obtain ⟨e1, e2⟩ := q; cases e1; rw [e2]; clear e2 h9
        refine e_aload_n dX5_takeFromPile_22 rfl rfl ?_
        refine e_acmp_ne (tgt := 35) dX5_takeFromPile_23 (by decide) (fun c23 => ?_) (fun c23 => ?_)
        · skip
          refine e_iinc dX5_takeFromPile_35 (by decide) rfl rfl rfl rfl ?_
          refine e_goto (tgt := 10) dX5_takeFromPile_38 (by decide) ?_
          first
            | (have ei : i = p := by
                 apply Decidable.byContradiction
                 intro z
                 exact p3 i (by omega) (by omega) z (nW_i (IO_hasW hO s0 s1 (by omega) (by omega)) hw ((hq i (by omega) (by omega)).symm.trans c23))
               exact ih10 _ _ _ _ (by omega) (by omega) (by omega) g1 (fun j j0 j1 => by show (if j < i then q1 j else q1 (j + 1)) = _; rw [if_pos (by omega)]; exact hq j j0 (by omega)) (Or.inr ⟨by omega, by omega, by rw [ei, (hz.resolve_right (by omega)).2.2]⟩) ((g2 (nS s) (by omega) (by omega)).1.trans hk) (((g2 (nS s) (by omega) (by omega)).2.2.2.2.1 601).trans hr) (fun m m1 m2 => eqAt_tr (hF m m1 m2) (g2 m m1 m2)))
            | (have ei : i ≠ p := fun z => c23 ((hq i (by omega) (by omega)).trans (nW_e (by rw [z]; exact p2)))
               exact ih10 _ _ _ _ (by omega) (by omega) (by omega) hL2 (fun j j0 j1 => hq j j0 (by omega)) (hz.elim (fun z => Or.inl ⟨by have := z.1; omega, z.2⟩) (fun z => Or.inr ⟨by have := z.1; omega, z.2⟩)) hk hr hF)
        · skip
          refine e_aload_n dX5_takeFromPile_26 rfl rfl ?_
          refine e_getR dX5_takeFromPile_27 flX5_20 rfl (by assumption) (by assumption) ?_
          refine e_iload_n dX5_takeFromPile_30 rfl rfl ?_
          have hqk : ∀ j, 0 ≤ j → j < len1 → ∀ y, q1 j = some y → zK h1 y = 8 + 1 := by
            rcases hz with z | z
            · intro j j0 j1 y e
              rw [z.2.2] at e
              have e := Option.some.inj e
              have q1' := hO s j s0 s1 j0 (by omega)
              have q2 := hWs _ q1'.1
              rw [← e]
              exact (hF _ (by unfold nW nS; omega) (by unfold nW; unfold nS at hed; omega)).1.trans q2.1
            · exact absurd ((hq i (by omega) (by omega)).symm.trans c23) (fun y => p3 i (by omega) (by omega) (by omega) (nW_i (IO_hasW hO s0 s1 (by omega) (by omega)) hw y))
          refine e_callV (As := [zI _]) (cb := 0) dX5_takeFromPile_31 moJx4a65c_remove_915e3 mvJx4a65c_remove_915e3 mlX5_64 (by decide) rfl (show zK h1 (nS s + 2) = 0 + 1 from hL3) rfl (Nat.le_of_ble_eq_true rfl) ⟨by decide, by decide, by decide, by decide⟩ (c_Jx4a65c_remove_915e3 hl hL2 8 (by decide) (by decide) hqk i (by omega) (by omega)) (fun E h1 q => by cases q.1) (fun v h1 q => ?_)
          obtain ⟨e1, g1, g2⟩ := q; cases e1
          refine e_pop dX5_takeFromPile_34 rfl ?_
          refine e_iinc dX5_takeFromPile_35 (by decide) rfl rfl rfl rfl ?_
          refine e_goto (tgt := 10) dX5_takeFromPile_38 (by decide) ?_
          first
            | (have ei : i = p := by
                 apply Decidable.byContradiction
                 intro z
                 exact p3 i (by omega) (by omega) z (nW_i (IO_hasW hO s0 s1 (by omega) (by omega)) hw ((hq i (by omega) (by omega)).symm.trans c23))
               exact ih10 _ _ _ _ (by omega) (by omega) (by omega) g1 (fun j j0 j1 => by show (if j < i then q1 j else q1 (j + 1)) = _; rw [if_pos (by omega)]; exact hq j j0 (by omega)) (Or.inr ⟨by omega, by omega, by rw [ei, (hz.resolve_right (by omega)).2.2]⟩) ((g2 (nS s) (by omega) (by omega)).1.trans hk) (((g2 (nS s) (by omega) (by omega)).2.2.2.2.1 601).trans hr) (fun m m1 m2 => eqAt_tr (hF m m1 m2) (g2 m m1 m2)))
            | (have ei : i ≠ p := fun z => c23 ((hq i (by omega) (by omega)).trans (nW_e (by rw [z]; exact p2)))
               exact ih10 _ _ _ _ (by omega) (by omega) (by omega) hL2 (fun j j0 j1 => hq j j0 (by omega)) (hz.elim (fun z => Or.inl ⟨by have := z.1; omega, z.2⟩) (fun z => Or.inr ⟨by have := z.1; omega, z.2⟩)) hk hr hF)
  exact lp10 12 _ _ h (pileQ S s) (by omega) (by omega) (by omega) hL (fun j _ _ => rfl) (Or.inl ⟨by omega, rfl, rfl⟩) o1 o3 (fun m _ _ => eqAt_rf)
