set_option maxHeartbeats 4000000 in
set_option maxRecDepth 100000 in
theorem c_X5_doKeys {l : Launch} (hl : l.stackTraces = false) {S : S9} {h : zH} {s : Int} (s0 : 0 ≤ s) (s1 : s < 4) {ed : Nat} {cp : Int} {kn : Int → Nat} (hX : Sx S h s ed cp kn) (hz : zf h 608 (nS s) = 0) (hJ : JJ S) (B : Int) (hG : IG S B) (hB : B ≤ 1800000000) (h10 : ∀ w, S 10 w = 0 ∨ S 10 w = 1) (h11 : ∀ w, S 11 w = 0 ∨ S 11 w = 1) (h13 : ∀ w, S 13 w = 0 ∨ S 13 w = 1)  : zC l MX5_doKeys [zR (some (nS s))] h (fun o h' => o = .inl none ∧ (∃ ed' cp', Sx (doK S s) h' s ed' cp' kn) ∧ ∀ m, dkF S s m → m ≠ nS s + 3 → m ≠ ed → eqAt m h h') := by
  refine zC_of hl rfl rfl (by decide) rfl rfl (Nat.le_of_ble_eq_true rfl) ?_
  have hn := hJ.1.2.2.2.2 s s0 s1
  have ho := hX.1.2.2.2.2.1.1
  refine e_aload_n dX5_doKeys_0 rfl rfl ?_
  refine e_getI dX5_doKeys_1 flX5_123 rfl (show zK h (nS s) = 6 + 1 from ho) hz (fun r1 => ?_)
  refine e_if_eq (tgt := 8) dX5_doKeys_4 (by decide) (by omega) (fun c4 => ?_) (fun c4 => ?_)
  · skip
    try simp only [b2_0, b2_n0] at c4
    refine e_iconst dX5_doKeys_8 ?_
    refine e_istore_n dX5_doKeys_9 rfl (by decide) rfl rfl ?_
    have lp10 : ∀ (d : Nat) (i : Int) (h1 : zH), (S 17 s - i).toNat < d → 0 ≤ i → i ≤ S 17 s → Sx (keyN S s i.toNat) h1 s ed cp kn → (∀ m, dkF S s m → eqAt m h h1) → AW l MX5_doKeys (fun o h' => o = .inl none ∧ (∃ ed' cp', Sx (doK S s) h' s ed' cp' kn) ∧ ∀ m, dkF S s m → m ≠ nS s + 3 → m ≠ ed → eqAt m h h') 0 0 10 [zR (some (nS s)), zI i, zX] [] h1 := by
      intro d
      induction d with
      | zero => intro i h1 hd i0 i1 hX1 hF1; exact absurd hd (by omega)
      | succ d ih =>
        have ih10 := ih
        intro i h1 hd i0 i1 hX1 hF1
        obtain ⟨T, hT⟩ : ∃ T, T = keyN S s i.toNat := ⟨_, rfl⟩
        rw [← hT] at hX1
        have eT : ∀ f, (f ≠ 9 ∧ f ≠ 14 ∧ f ≠ 38 ∧ f ≠ 39) → ∀ j, T f j = S f j := fun f hf j => by rw [hT]; exact keyN_f hf _
        have hJT : JJ T := by rw [hT]; exact keyN_JJ hJ s0 s1 _ (by omega)
        have hGT : IG T (B + i) := by
          have z := keyN_IG (s := s) hG i.toNat
          rw [← hT, show ((i.toNat : Nat) : Int) = i by omega] at z
          exact z
        have ex : 0 ≤ i → keyN S s (i + 1).toNat = key1 T s i := fun z => by
          rw [show (i + 1).toNat = i.toNat + 1 by omega, keyN_s, ← hT, show ((i.toNat : Nat) : Int) = i by omega]
        obtain ⟨hV1, hK1, hC1, hCl1⟩ := id hX1
        obtain ⟨hL, hcp, hks⟩ := id hK1
        have hL1 := hL.1
        have e17 := eT 17 (by decide) s
        have hso := hV1.2.2.2.2.1
        have hko := hso.1
        have hkeys := hso.2.2.2.1
        refine e_iload_n dX5_doKeys_10 rfl rfl ?_
        refine e_aload_n dX5_doKeys_11 rfl rfl ?_
        refine e_getR dX5_doKeys_12 flX5_24 rfl (show zK h1 (nS s) = 6 + 1 from hko) hkeys ?_
        refine e_callV (As := []) (cb := 0) dX5_doKeys_15 moJx4a65c_size_8abf5 mvJx4a65c_size_8abf5 mlX5_57 (by decide) rfl (show zK h1 (nS s + 3) = 0 + 1 from hL1) rfl (Nat.le_of_ble_eq_true rfl) ⟨by decide, by decide, by decide, by decide⟩ (c_Jx4a65c_size_8abf5 hl hL) (fun E h1 q => by cases q.1) (fun v h9 q => ?_)
        obtain ⟨e1, e2⟩ := q; cases e1; rw [e2]; clear e2 h9
        refine e_icmp_ge (tgt := 77) dX5_doKeys_18 (by decide) (by omega) (by omega) (fun c18 => ?_) (fun c18 => ?_)
        · skip
          refine e_aload_n dX5_doKeys_77 rfl rfl ?_
          refine e_getR dX5_doKeys_78 flX5_24 rfl (show zK h1 (nS s) = 6 + 1 from hko) hkeys ?_
          refine e_callV (As := []) (cb := 0) dX5_doKeys_81 moJx4a65c_clear_da8c8 mvJx4a65c_clear_da8c8 mlX5_146 (by decide) rfl (show zK h1 (nS s + 3) = 0 + 1 from hL1) rfl (Nat.le_of_ble_eq_true rfl) ⟨by decide, by decide, by decide, by decide⟩ (c_Jx4a65c_clear_da8c8 hl hL) (fun E h1 q => by cases q.1) (fun v h1 q => ?_)
          obtain ⟨e1, g2, g3⟩ := q; cases e1
          refine e_vret dX5_doKeys_84 rfl (by decide) (by decide) ?_
          have ei : i = S 17 s := by omega
          have hTd : doK S s = up T 17 s 0 := by unfold doK; rw [hT, ei]
          exact ⟨rfl, ⟨ed, cp, by rw [hTd]; exact Sx_clear hJT s0 s1 g2 g3 hX1⟩, fun m m1 m2 m3 => eqAt_tr (hF1 m m1) (g3 m m2 m3)⟩
        · skip
          refine e_aload_n dX5_doKeys_21 rfl rfl ?_
          refine e_getR dX5_doKeys_22 flX5_24 rfl (show zK h1 (nS s) = 6 + 1 from hko) hkeys ?_
          refine e_iload_n dX5_doKeys_25 rfl rfl ?_
          refine e_callV (As := [zI _]) (cb := 0) dX5_doKeys_26 moJx4a65c_get_915e3 mvJx4a65c_get_915e3 mlX5_60 (by decide) rfl (show zK h1 (nS s + 3) = 0 + 1 from hL1) rfl (Nat.le_of_ble_eq_true rfl) ⟨by decide, by decide, by decide, by decide⟩ (c_Jx4a65c_get_915e3 hl hL i (by omega) (by omega)) (fun E h1 q => by cases q.1) (fun v h9 q => ?_)
          obtain ⟨e1, e2⟩ := q; cases e1; rw [e2]; clear e2 h9
          have tk := hks i (by omega) (by omega)
          obtain ⟨k0, hRK⟩ := tk
          obtain ⟨k1, k2, k3, k4, k5⟩ := id hRK
          have hIK : IK1 T s i := hJT.2.2.2.2 s i s0 s1 (by omega) (by omega)
          obtain ⟨ik1, ik2, ik3, ik4, ik5⟩ := id hIK
          have hWs := hV1.2.2.2.2.2.2
          have hRw := hWs _ ik1
          have hIw := hJT.2.1 _ _ ik1
          have hJU : JJ (keyW T s i) := keyW_JJ hJT hIK
          have u10 : ∀ w, keyW T s i 10 w = 0 ∨ keyW T s i 10 w = 1 := fun w => by rw [keyW_f (by decide), eT 10 (by decide)]; exact h10 w
          have u11 : ∀ w, keyW T s i 11 w = 0 ∨ keyW T s i 11 w = 1 := fun w => by rw [keyW_f (by decide), eT 11 (by decide)]; exact h11 w
          have t10 : T 10 (T 18 (20 * s + i)) = 0 ∨ T 10 (T 18 (20 * s + i)) = 1 := by rw [eT 10 (by decide)]; exact h10 _
          have t13 : T 13 (T 18 (20 * s + i)) = 0 ∨ T 13 (T 18 (20 * s + i)) = 1 := by rw [eT 13 (by decide)]; exact h13 _
          have e2 := eT 2 (by decide) 0
          obtain ⟨w1, w2, w3, w4, w5, w6, w7, w8, w9, w10⟩ := id hIw
          have wa := area_le w5 w6 w7 w8
          have ew4 : hasW S s (T 18 (20 * s + i)) := by
            have z := ik1
            rw [hasW, eT 4 (by decide)] at z
            exact z
          refine e_cast (cb := 4) dX5_doKeys_29 clX5_100 (by decide) (show zK h1 (kn i) = 4 + 1 from k1) ?_
          refine e_astore_n dX5_doKeys_32 rfl (by decide) rfl rfl ?_
          refine e_aload_n dX5_doKeys_33 rfl rfl ?_
          refine e_getR dX5_doKeys_34 flX5_102 rfl (show zK h1 (kn i) = 4 + 1 from k1) k3 ?_
          refine e_getI dX5_doKeys_37 flX5_126 rfl (show zK h1 (nW (T 18 (20 * s + i))) = 8 + 1 from hRw.1) hRw.2.2.2.2.2.2.1 (fun r37 => ?_)
          have j59 : ∀ h2 : zH, Sx (keyW T s i) h2 s ed cp kn → (∀ m, dkF S s m → eqAt m h h2) → AW l MX5_doKeys (fun o h' => o = .inl none ∧ (∃ ed' cp', Sx (doK S s) h' s ed' cp' kn) ∧ ∀ m, dkF S s m → m ≠ nS s + 3 → m ≠ ed → eqAt m h h') 0 0 59 [zR (some (nS s)), zI i, zR (some (kn i))] [] h2 := by
            intro h2 hX2 hF2
            obtain ⟨hV2, hK2, hC2, hCl2⟩ := id hX2
            have hRK2 := (hK2.2.2 i (by omega) (by rw [keyW_f (by decide)]; omega)).2
            obtain ⟨l1, l2, l3, l4, l5⟩ := id hRK2
            have e18 : keyW T s i 18 (20 * s + i) = T 18 (20 * s + i) := keyW_f (by decide)
            have e21 : keyW T s i 21 (20 * s + i) = T 21 (20 * s + i) := keyW_f (by decide)
            have e20 : keyW T s i 20 (20 * s + i) = T 20 (20 * s + i) := keyW_f (by decide)
            have e19 : keyW T s i 19 (20 * s + i) = T 19 (20 * s + i) := keyW_f (by decide)
            have hasU : hasW (keyW T s i) s (keyW T s i 18 (20 * s + i)) := by rw [hasW, e18, keyW_f (by decide)]; exact ik1
            have hCc : RCl (keyW T s i) h2 (T 21 (20 * s + i)) := hCl2 _ ik4 (by rw [keyW_f (by decide)]; exact ik5)
            have gg : ∀ f, f = 38 ∨ f = 39 → keyW T s i f (T 21 (20 * s + i)) = T f (T 21 (20 * s + i)) := fun f hf => keyW_f (by omega)
            have gT := hGT _ ik4 (by omega)
            rw [e21] at l2
            refine e_aload_n dX5_doKeys_59 rfl rfl ?_
            refine e_getR dX5_doKeys_60 flX5_106 rfl (show zK h2 (kn i) = 4 + 1 from l1) l2 ?_
            refine e_aload_n dX5_doKeys_63 rfl rfl ?_
            refine e_aload_n dX5_doKeys_64 rfl rfl ?_
            refine e_callV (As := [zR _]) (cb := 6) dX5_doKeys_65 moX5_isRight mvX5_isRight mlX5_136 (by decide) rfl (show zK h2 (nS s) = 6 + 1 from hV2.2.2.2.2.1.1) rfl (Nat.le_of_ble_eq_true rfl) ⟨by decide, by decide, by decide, by decide⟩ (c_X5_isRight hl hV2.2.2.2.2.1 hRK2 hC2 (hV2.2.2.2.2.2.2 _ hasU) (hJU.2.1 _ _ hasU) (u10 _) (by rw [e20]; omega)) (fun E h1 q => by cases q.1) (fun v h9 q => ?_)
            obtain ⟨e1, e2⟩ := q; cases e1; rw [e2]; clear e2 h9
            refine e_callV (As := [zI _]) (cb := 2) dX5_doKeys_68 moX1_endGuess mvX1_endGuess mlX5_140 (by decide) rfl (show zK h2 (nC (T 21 (20 * s + i))) = 2 + 1 from hCc.1) rfl (Nat.le_of_ble_eq_true rfl) ⟨by decide, by decide, by decide, by decide⟩ (c_X1_endGuess hl hCc _ b2_01 (by rw [gg 38 (by decide)]; omega) (by rw [gg 39 (by decide)]; omega)) (fun E h1 q => by cases q.1) (fun v h1 q => ?_)
            obtain ⟨e1, g2, g3⟩ := q; cases e1
            rw [show (up (up (keyW T s i) 38 (T 21 (20 * s + i)) (keyW T s i 38 (T 21 (20 * s + i)) + 1)) 39 (T 21 (20 * s + i)) (keyW T s i 39 (T 21 (20 * s + i)) + b2 (0 ≤ placeOf (keyW T s i) (keyW T s i 18 (20 * s + i)) (keyW T s i 20 (20 * s + i)) ∧ keyW T s i 10 (keyW T s i 18 (20 * s + i)) = 1 ∧ screenAt (keyW T s i) s (placeOf (keyW T s i) (keyW T s i 18 (20 * s + i)) (keyW T s i 20 (20 * s + i))) = keyW T s i 19 (20 * s + i)))) = key1 T s i by
              unfold key1 keyR
              rw [placeOf_ag2 (fun f h5 h8 j => keyW_f (by omega)), e18, e20, e19, keyW_f (f := 10) (by decide), gg 38 (by decide), gg 39 (by decide)]] at g2
            have hX3 := Sx_cl (V := key1 T s i) (key1_JJ hJT hIK) ik4 (by rw [keyW_f (by decide)]; exact ik5) (fun f f1 f2 j => by unfold key1; rw [up_f f2, up_f f1]) (fun f j hj => by unfold key1; rw [up_i hj, up_i hj]) g2 g3 hX2
            refine e_iinc dX5_doKeys_71 (by decide) rfl rfl rfl rfl ?_
            refine e_goto (tgt := 10) dX5_doKeys_74 (by decide) ?_
            refine e_mask [true, true, false] ?_
            exact ih10 _ _ (by omega) (by omega) (by omega) (by rw [ex i0]; exact hX3) (fun m hm => eqAt_tr (hF2 m hm) (g3 m (hm.2.2 _ (by omega) (by omega))))
          refine e_if_eq (tgt := 59) dX5_doKeys_40 (by decide) (by omega) (fun c40 => ?_) (fun c40 => ?_)
          · skip
            try simp only [b2_0, b2_n0] at c40
            have kw : keyW T s i = T := by unfold keyW; rw [if_neg (by omega)]
            have HX : Sx (keyW T s i) h1 s ed cp kn := by rw [kw]; exact hX1
            have HF := hF1
            exact j59 _ HX HF
          · skip
            try simp only [b2_0, b2_n0] at c40
            refine e_aload_n dX5_doKeys_43 rfl rfl ?_
            refine e_getR dX5_doKeys_44 flX5_102 rfl (show zK h1 (kn i) = 4 + 1 from k1) k3 ?_
            refine e_aload_n dX5_doKeys_47 rfl rfl ?_
            refine e_getI dX5_doKeys_48 flX5_129 rfl (show zK h1 (kn i) = 4 + 1 from k1) k5 (fun r48 => ?_)
            refine e_callV (As := [zI _]) (cb := 8) dX5_doKeys_51 moX7_put mvX7_put mlX5_132 (by decide) rfl (show zK h1 (nW (T 18 (20 * s + i))) = 8 + 1 from hRw.1) rfl (Nat.le_of_ble_eq_true rfl) ⟨by decide, by decide, by decide, by decide⟩ (c_X7_put hl hRw hIw t13 _ (by assumption)) (fun E h1 q => by cases q.1) (fun v h9 q => ?_)
            obtain ⟨e1, hRw2, hF2⟩ := q; cases e1
            have kw : keyW T s i = up (up T 14 (96 * T 18 (20 * s + i) + T 9 (T 18 (20 * s + i))) (if T 13 (T 18 (20 * s + i)) = 1 then 7 else T 19 (20 * s + i))) 9 (T 18 (20 * s + i)) ((T 9 (T 18 (20 * s + i)) + 1) % (T 7 (T 18 (20 * s + i)) * T 8 (T 18 (20 * s + i)))) := by unfold keyW; rw [if_pos (by omega)]
            rw [← kw] at hRw2
            have hV2 : RV (keyW T s i) h9 s := RV_put hJU hIK (by omega) hRw2 hF2 hV1
            have hko2 := hV2.2.2.2.2.1.1
            have hC2 : RCo h9 s (screenAt T s) := RCo_at (hF2 _ (by unfold nS nW; omega) (by unfold nS nW; omega)) hC1
            refine e_aload_n dX5_doKeys_54 rfl rfl ?_
            refine e_callV (As := []) (cb := 6) dX5_doKeys_55 moX5_repaint mvX5_repaint mlX5_53 (by decide) rfl (show zK h9 (nS s) = 6 + 1 from hko2) rfl (Nat.le_of_ble_eq_true rfl) ⟨by decide, by decide, by decide, by decide⟩ (c_X5_repaint hl hV2 u11 hC2) (fun E h1 q => by cases q.1) (fun v h1 q => ?_)
            obtain ⟨e1, hC3, hF3⟩ := q; cases e1
            have HX := Sx_put hIK hV2 hF2 hC3 hF3 hX1
            have HF := fun m (hm : dkF S s m) => eqAt_tr (eqAt_tr (hF1 m hm) (hF2 m (hm.1 _ ew4).1 (hm.1 _ ew4).2)) (hF3 m hm.2.1)
            refine e_pop dX5_doKeys_58 rfl ?_
            exact j59 _ HX HF
    exact lp10 (S 17 s + 1).toNat 0 h (by omega) (by omega) (by omega) hX (fun m _ => eqAt_rf)
  · skip
    try simp only [b2_0, b2_n0] at c4
    exact absurd trivial c4
