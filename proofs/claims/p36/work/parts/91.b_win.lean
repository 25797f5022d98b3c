set_option maxHeartbeats 4000000 in
set_option maxRecDepth 100000 in
theorem c_X5_takeFromPileW {l : Launch} (hl : l.stackTraces = false) {S : S9} {h : zH} {s : Int} (s0 : 0 ≤ s) (s1 : s < 4) (hN : IN S) (hO : IO S) (hSo : RSo S h s) (hP : RP S h s) (hWk : ∀ v, hasW S s v → zK h (nW v) = 9) (w p : Int) (hw : 0 ≤ w) (hp : posO S s w p) : zC l MX5_takeFromPile [zR (some (nS s)), zR (some (nW w))] h (fun o h' => o = .inl none ∧ RP (tkO S s p) h' s ∧ ∀ m, m ≠ nS s + 2 → m ≠ nS s + 15 → eqAt m h h') := by
  refine zC_of hl rfl rfl (by decide) rfl rfl (Nat.le_of_ble_eq_true rfl) ?_
  obtain ⟨ed, cp, hL, hed⟩ := id hP
  obtain ⟨o1, o2, o3, o4, o5, o6, o7, o8, o9⟩ := id hSo
  have hL1 := hL.1
  have hn := hN.2.2.2.2 s s0 s1
  obtain ⟨p0, p1, p2, p3⟩ := id hp
  have hed : 0 < ed ∧ ed = nS s + 15 ∧ cp = 10 := by
    rcases hed with z | z
    · have := hL.2.2.2.1; rcases hL.2.2.2.2.1 with y | y <;> omega
    · omega
  refine e_aload_n dX5_takeFromPile_0 rfl rfl ?_
  refine e_getR dX5_takeFromPile_1 flX5_20 rfl (by assumption) (by assumption) ?_
  refine e_callV (As := []) (cb := 0) dX5_takeFromPile_4 moJx4a65c_size_8abf5 mvJx4a65c_size_8abf5 mlX5_57 (by decide) rfl (show zK h (nS s + 2) = 0 + 1 from hL1) rfl (Nat.le_of_ble_eq_true rfl) ⟨by decide, by decide, by decide, by decide⟩ (c_Jx4a65c_size_8abf5 hl hL) (fun E h1 q => by cases q.1) (fun v h9 q => ?_)
  obtain ⟨e1, e2⟩ := q; cases e1; rw [e2]; clear e2 h9
  refine e_iconst dX5_takeFromPile_7 ?_
  refine e_isub dX5_takeFromPile_8 ?_
  refine e_istore_n dX5_takeFromPile_9 rfl (by decide) rfl rfl ?_
  have lp10 : ∀ (d : Nat) (i len1 : Int) (h1 : zH) (q1 : Int → Option Nat), (i + 1).toNat < d → -1 ≤ i → i < len1 → LA h1 (nS s + 2) ed cp len1 q1 → (∀ j, 0 ≤ j → j ≤ i → q1 j = some (nW (S 15 (6 * s + j)))) → ((p ≤ i ∧ len1 = S 16 s ∧ q1 = pileQ S s) ∨ (i < p ∧ len1 = S 16 s - 1 ∧ q1 = fun j => if j < p then pileQ S s j else pileQ S s (j + 1))) → zK h1 (nS s) = 7 → zr h1 601 (nS s) = some (nS s + 2) → (∀ m, m ≠ nS s + 2 → m ≠ ed → eqAt m h h1) → AW l MX5_takeFromPile (fun o h' => o = .inl none ∧ RP (tkO S s p) h' s ∧ ∀ m, m ≠ nS s + 2 → m ≠ nS s + 15 → eqAt m h h') 0 0 10 [zR (some (nS s)), zR (some (nW w)), zI i] [] h1 := by
    intro d
    induction d with
    | zero => intro i len1 h1 q1 hd i0 i1 hL2 hq hz hk hr hF; exact absurd hd (by omega)
    | succ d ih =>
      have ih10 := ih
      intro i len1 h1 q1 hd i0 i1 hL2 hq hz hk hr hF
      have hL3 := hL2.1
      have hL4 := hL2.2.2.2.1
      refine e_iload_n dX5_takeFromPile_10 rfl rfl ?_
      refine e_if_lt (tgt := 41) dX5_takeFromPile_11 (by decide) (by omega) (fun c11 => ?_) (fun c11 => ?_)
      · skip
        refine e_vret dX5_takeFromPile_41 rfl (by decide) (by decide) ?_
        rcases hz with z | z
        · omega
        · exact ⟨rfl, ⟨ed, cp, LA_eqq (by rw [tkO_n]; omega) (fun j j0 j1 => by rw [tkO_q p0 j0 (by omega), z.2.2]) hL2, Or.inr hed.2⟩, fun m m1 m2 => hF m m1 (by omega)⟩
      · skip
        refine e_aload_n dX5_takeFromPile_14 rfl rfl ?_
        refine e_getR dX5_takeFromPile_15 flX5_20 rfl (by assumption) (by assumption) ?_
        refine e_iload_n dX5_takeFromPile_18 rfl rfl ?_
        refine e_callV (As := [zI _]) (cb := 0) dX5_takeFromPile_19 moJx4a65c_get_915e3 mvJx4a65c_get_915e3 mlX5_60 (by decide) rfl (show zK h1 (nS s + 2) = 0 + 1 from hL3) rfl (Nat.le_of_ble_eq_true rfl) ⟨by decide, by decide, by decide, by decide⟩ (c_Jx4a65c_get_915e3 hl hL2 _ (by omega) (by omega)) (fun E h1 q => by cases q.1) (fun v h9 q => ?_)
        obtain ⟨e1, e2⟩ := q; cases e1; rw [e2]; clear e2 h9
        refine e_aload_n dX5_takeFromPile_22 rfl rfl ?_
        refine e_acmp_ne (tgt := 35) dX5_takeFromPile_23 (by decide) (fun c23 => ?_) (fun c23 => ?_)
        · skip
          refine e_iinc dX5_takeFromPile_35 (by decide) rfl rfl rfl rfl ?_
          refine e_goto (tgt := 10) dX5_takeFromPile_38 (by decide) ?_
          first
            | (have ei : i = p := by
                 apply Decidable.byContradiction
                 intro z
                 exact p3 i (by omega) (by omega) z (nW_i (IO_hasW hO s0 s1 (by omega) (by omega)) hw ((hq i (by omega) (by omega)).symm.trans c23))
               exact ih10 _ _ _ _ (by omega) (by omega) (by omega) g1 (fun j j0 j1 => by show (if j < i then q1 j else q1 (j + 1)) = _; rw [if_pos (by omega)]; exact hq j j0 (by omega)) (Or.inr ⟨by omega, by omega, by rw [ei, (hz.resolve_right (by omega)).2.2]⟩) ((g2 (nS s) (by omega) (by omega)).1.trans hk) (((g2 (nS s) (by omega) (by omega)).2.2.2.2.1 601).trans hr) (fun m m1 m2 => eqAt_tr (hF m m1 m2) (g2 m m1 m2)))
            | (have ei : i ≠ p := fun z => c23 ((hq i (by omega) (by omega)).trans (nW_e (by rw [z]; exact p2)))
               exact ih10 _ _ _ _ (by omega) (by omega) (by omega) hL2 (fun j j0 j1 => hq j j0 (by omega)) (hz.elim (fun z => Or.inl ⟨by have := z.1; omega, z.2⟩) (fun z => Or.inr ⟨by have := z.1; omega, z.2⟩)) hk hr hF)
        · skip
          refine e_aload_n dX5_takeFromPile_26 rfl rfl ?_
          refine e_getR dX5_takeFromPile_27 flX5_20 rfl (by assumption) (by assumption) ?_
          refine e_iload_n dX5_takeFromPile_30 rfl rfl ?_
          have hqk : ∀ j, 0 ≤ j → j < len1 → ∀ y, q1 j = some y → zK h1 y = 8 + 1 := by
            rcases hz with z | z
            · intro j j0 j1 y e
              rw [z.2.2] at e
              have e := Option.some.inj e
              have q1' := hO s j s0 s1 j0 (by omega)
              have q2 := hWk _ q1'.1
              rw [← e]
              exact (hF _ (by unfold nW nS; omega) (by unfold nW; unfold nS at hed; omega)).1.trans q2
            · exact absurd ((hq i (by omega) (by omega)).symm.trans c23) (fun y => p3 i (by omega) (by omega) (by omega) (nW_i (IO_hasW hO s0 s1 (by omega) (by omega)) hw y))
          refine e_callV (As := [zI _]) (cb := 0) dX5_takeFromPile_31 moJx4a65c_remove_915e3 mvJx4a65c_remove_915e3 mlX5_64 (by decide) rfl (show zK h1 (nS s + 2) = 0 + 1 from hL3) rfl (Nat.le_of_ble_eq_true rfl) ⟨by decide, by decide, by decide, by decide⟩ (c_Jx4a65c_remove_915e3 hl hL2 8 (by decide) (by decide) hqk i (by omega) (by omega)) (fun E h1 q => by cases q.1) (fun v h1 q => ?_)
          obtain ⟨e1, g1, g2⟩ := q; cases e1
          refine e_pop dX5_takeFromPile_34 rfl ?_
          refine e_iinc dX5_takeFromPile_35 (by decide) rfl rfl rfl rfl ?_
          refine e_goto (tgt := 10) dX5_takeFromPile_38 (by decide) ?_
          first
            | (have ei : i = p := by
                 apply Decidable.byContradiction
                 intro z
                 exact p3 i (by omega) (by omega) z (nW_i (IO_hasW hO s0 s1 (by omega) (by omega)) hw ((hq i (by omega) (by omega)).symm.trans c23))
               exact ih10 _ _ _ _ (by omega) (by omega) (by omega) g1 (fun j j0 j1 => by show (if j < i then q1 j else q1 (j + 1)) = _; rw [if_pos (by omega)]; exact hq j j0 (by omega)) (Or.inr ⟨by omega, by omega, by rw [ei, (hz.resolve_right (by omega)).2.2]⟩) ((g2 (nS s) (by omega) (by omega)).1.trans hk) (((g2 (nS s) (by omega) (by omega)).2.2.2.2.1 601).trans hr) (fun m m1 m2 => eqAt_tr (hF m m1 m2) (g2 m m1 m2)))
            | (have ei : i ≠ p := fun z => c23 ((hq i (by omega) (by omega)).trans (nW_e (by rw [z]; exact p2)))
               exact ih10 _ _ _ _ (by omega) (by omega) (by omega) hL2 (fun j j0 j1 => hq j j0 (by omega)) (hz.elim (fun z => Or.inl ⟨by have := z.1; omega, z.2⟩) (fun z => Or.inr ⟨by have := z.1; omega, z.2⟩)) hk hr hF)
  exact lp10 12 _ _ h (pileQ S s) (by omega) (by omega) (by omega) hL (fun j _ _ => rfl) (Or.inl ⟨by omega, rfl, rfl⟩) o1 o3 (fun m _ _ => eqAt_rf)
set_option maxHeartbeats 4000000 in
set_option maxRecDepth 100000 in
theorem c_X8_show {l : Launch} (hl : l.stackTraces = false) {S : S9} {h : zH} {B : Int} (hR : RC S h) (hI : II S B) (s : Int) (hsz : zin s) (w : Int) (hwz : zin w) (v : Int) (hv : v = 0 ∨ v = 1)  : zC l MX8_show [zR (some 2), zI s, zI w, zI v] h (QC S h (if ¬ isWn S s w then 1 else 0) [exI] (zI (S 11 (6 * s + w))) (up S 11 (6 * s + w) v)) := by
  refine zC_of hl rfl rfl (by decide) rfl rfl (Nat.le_of_ble_eq_true rfl) ?_
  have hN : IN S := hI.1.1
  have hIW : IW S := hI.1.2.1
  have hIO : IO S := hI.1.2.2.1
  have hIC : IC S := hI.1.2.2.2.1
  have hIK : IK S := hI.1.2.2.2.2
  have hB3 := hI.2.2.1
  have hbt := hI.2.2.2.2
  obtain ⟨⟨⟨p1, p2, p3, p4, p5⟩, ⟨y1, y2, y3⟩, ⟨x1, x2, x3⟩, v1, v2, v3⟩, hRs, hRc, hRf⟩ := id hR
  obtain ⟨n1, n2, n3, n4, n5⟩ := id hN
  refine e_aload_n dX8_show_0 rfl rfl ?_
  refine e_iload_n dX8_show_1 rfl rfl ?_
  refine e_callV (As := [zI _]) (cb := 9) dX8_show_2 moX8_sessionAt mvX8_sessionAt mlX8_37 (by decide) rfl (show zK _ 2 = 9 + 1 from p1) rfl (Nat.le_of_ble_eq_true rfl) ⟨by decide, by decide, by decide, by decide⟩ (c_X8_sessionAt hl hR hN s hsz) (fun E h9 q => by (obtain ⟨e2, hz, e1⟩ := Qat_r q); subst e1; subst e2; exact AX_out rfl (by decide) (by decide) (QC_no (x := 1) (by first | (rw [if_pos (by omega)]; done) | (rw [if_neg (by omega), if_pos (by omega)]; done) | (rw [if_neg (by omega), if_neg (by omega), if_pos (by omega)]; done) | (rw [if_neg (by omega), if_neg (by omega), if_neg (by omega), if_pos (by omega)]; done)) (by decide) rfl (fun _ _ => eqAt_rf) hR)) (fun v h9 q => ?_)
  obtain ⟨e2, hs0, e1⟩ := Qat_l q; cases e1; rw [e2]; clear q e2 h9
  obtain ⟨hV, ⟨ed, cp, kn, hK⟩, hC, hWn, hCp, hT, hRr, hRr0⟩ := hRs s hs0
  obtain ⟨⟨s0, s4⟩, -, -, -, hSo, hP, hWs⟩ := id hV
  obtain ⟨o1, o2, o3, o4, o5, o6, o7, o8, o9⟩ := id hSo
  have hb4 := n5 s s0 s4
  have K6 : zK h (nS s) = 6 + 1 := o1
  refine e_astore dX8_show_5 (by decide) rfl rfl ?_
  refine e_aload dX8_show_7 rfl ?_
  refine e_iload_n dX8_show_9 rfl rfl ?_
  refine e_callS (As := [zR _, zI _]) dX8_show_10 moX8_windowAt msX8_windowAt mlX8_68 rfl (Nat.le_of_ble_eq_true rfl) ⟨by decide, by decide, by decide, by decide⟩ (c_X8_windowAt hl hV hWn (hbt 10 (by decide) _) hwz) (fun E h9 q => by (obtain ⟨e2, hz9, e1⟩ := Qat_r q); subst e1; subst e2; exact AX_out rfl (by decide) (by decide) (QC_no (x := 1) (by first | (rw [if_pos (by omega)]; done) | (rw [if_neg (by omega), if_pos (by omega)]; done) | (rw [if_neg (by omega), if_neg (by omega), if_pos (by omega)]; done) | (rw [if_neg (by omega), if_neg (by omega), if_neg (by omega), if_pos (by omega)]; done)) (by decide) rfl (fun _ _ => eqAt_rf) hR)) (fun v h9 q => ?_)
  obtain ⟨e2, hw9, e1⟩ := Qat_l q; cases e1; rw [e2]; clear q e2 h9
  have hwW : hasW S s (6 * s + w) := ⟨s0, s4, by omega, by omega⟩
  have hRw := hWs _ hwW
  have hIw := hIW _ _ hwW
  obtain ⟨i1, i2, i3, i4, i5, i6, i7, i8, i9, i10⟩ := id hIw
  have iA := area_le i5 i6 i7 i8
  obtain ⟨k1, f0, f1, rr2, f3, f4, f5, f6, f7, f8, f9, k2, kn2, cs⟩ := id hRw
  have K9 : zK h (nW (6 * s + w)) = 8 + 1 := k1
  have hhs : isWn S s w := by omega
  have hfreeW := RC_freeW hR s0 s4
  have nsw : ∀ j, j ≤ 18 → nS s + j ≠ nW (6 * s + w) ∧ nS s + j ≠ nW (6 * s + w) + 1 := fun j hj => by unfold nS nW; omega
  have nlw : nW (6 * s + w) > 999 ∧ nS s > 999 := by unfold nS nW; omega
  refine e_astore dX8_show_13 (by decide) rfl rfl ?_
  refine e_aload dX8_show_15 rfl ?_
  refine e_getI dX8_show_17 flX8_84 rfl K9 f6 (fun r17 => ?_)
  refine e_istore dX8_show_20 (by decide) rfl rfl ?_
  refine e_aload dX8_show_22 rfl ?_
  refine e_iload_n dX8_show_24 rfl rfl ?_
  refine e_putI dX8_show_25 flX8_84 (Or.inl rfl) hv K9 (by omega) ?_
  have hI4 := I4_show (II_4 hI) (w := 6 * s + w) (v := v)
  have fr : ∀ m, m ≠ nW (6 * s + w) → m ≠ nW (6 * s + w) + 1 → eqAt m h (sf h 806 (nW (6 * s + w)) v) := fun m m1 _ => eqAt_sf m1
  have ee : ∀ f j, (f ≠ 11 ∨ j ≠ 6 * s + w) → up S 11 (6 * s + w) v f j = S f j := fun f j h1 => if_neg (by omega)
  have hRw1 : RW (up S 11 (6 * s + w) v) (sf h 806 (nW (6 * s + w)) v) (6 * s + w) := by
    refine ⟨k1, ?_, ?_, rr2, ?_, ?_, ?_, ?_, ?_, ?_, ?_, k2, ?_, fun k q0 q1 => ?_⟩
    all_goals simp only [up_f (show (5 : Nat) ≠ 11 by decide), up_f (show (6 : Nat) ≠ 11 by decide), up_f (show (7 : Nat) ≠ 11 by decide), up_f (show (8 : Nat) ≠ 11 by decide), up_f (show (9 : Nat) ≠ 11 by decide), up_f (show (10 : Nat) ≠ 11 by decide), up_f (show (12 : Nat) ≠ 11 by decide), up_f (show (13 : Nat) ≠ 11 by decide), up_f (show (14 : Nat) ≠ 11 by decide), up_eq] at *
    · exact f0
    · exact f1
    · exact f3
    · exact f4
    · exact f5
    · simp [s_ff]
    · exact f7
    · exact f8
    · exact f9
    · exact kn2
    · exact cs k q0 q1
  have hV1 := RV_win hI4.1 hwW (fun f j h1 h2 => ee f j (by omega)) hRw1 fr hV
  have hb1 : ∀ x, up S 11 (6 * s + w) v 11 x = 0 ∨ up S 11 (6 * s + w) v 11 x = 1 := fun x => by
    rw [up_at]
    split
    · exact hv
    · exact hbt 11 (by decide) x
  have hC1 : RCo (sf h 806 (nW (6 * s + w)) v) s (screenAt S s) := RCo_at (fr _ (nsw 4 (by decide)).1 (nsw 4 (by decide)).2) hC
  refine e_aload dX8_show_28 rfl ?_
  refine e_callV (As := []) (cb := 6) dX8_show_30 moX5_repaint mvX5_repaint mlX8_80 (by decide) rfl (show zK (sf h 806 (nW (6 * s + w)) v) (nS s) = 6 + 1 from o1) rfl (Nat.le_of_ble_eq_true rfl) ⟨by decide, by decide, by decide, by decide⟩ (c_X5_repaint hl hV1 hb1 hC1) (fun E h1 q => by cases q.1) (fun v h1 q => ?_)
  obtain ⟨e1, hC9, hf9⟩ := q; cases e1
  refine e_pop dX8_show_33 rfl ?_
  refine e_iload dX8_show_34 rfl ?_
  refine e_iret dX8_show_36 rfl (hbt 11 (by decide) _) (by decide) (by decide) ?_
  have hfin := RC_win hI hI4.1 hs0 (fun f j hn => ee f j (by unfold inS at hn; omega)) (fun f hf j => ee f j (by omega)) hV1 (RWn_agf (up_f (by decide)) (RWn_at (fr _ (nsw 1 (by decide)).1 (nsw 1 (by decide)).2) hWn)) (fun m m1 m2 m3 => fr m (m2 (6 * s + w) (by omega) (by omega)).1 (m2 (6 * s + w) (by omega) (by omega)).2) hC9 hf9 (fun x x0 x1 => by
    rw [up_f (by decide)] at x0
    exact hfreeW x x0 x1) hR
  exact QC_ok (by first | (rw [if_neg (by omega)]; done) | (rw [if_neg (by omega), if_neg (by omega)]; done) | (rw [if_neg (by omega), if_neg (by omega), if_neg (by omega)]; done) | (rw [if_neg (by omega), if_neg (by omega), if_neg (by omega), if_neg (by omega)]; done)) rfl (fun m hm => eqAt_tr (fr m (by omega) (by omega)) (hf9 m (by unfold nS; omega))) hfin
