set_option maxHeartbeats 4000000 in
set_option maxRecDepth 100000 in
theorem c_X8_type {l : Launch} (hl : l.stackTraces = false) {S : S9} {h : zH} {B : Int} (hR : RC S h) (hI : II S B) (hG : GMore l) (c : Int) (hcz : zin c) (t : Int) (ht0 : 0 ≤ t ∧ t < 65536)  : zC l MX8_type [zR (some 2), zI c, zI t] h (QC S h (if ¬ isC S c then 1 else if t < 97 ∨ 122 < t then 2 else if topOf S (S 35 c) < 0 then 3 else if S 17 (S 35 c) = 20 then 4 else 0) [exI, exA, exU, exS] (zI (S 17 (S 35 c) + 1)) (typS S c t)) := by
  refine zC_of hl rfl rfl (by decide) rfl rfl (Nat.le_of_ble_eq_true rfl) ?_
  have hN : IN S := hI.1.1
  have hIW : IW S := hI.1.2.1
  have hIO : IO S := hI.1.2.2.1
  have hIC : IC S := hI.1.2.2.2.1
  have hIK : IK S := hI.1.2.2.2.2
  have hB3 := hI.2.2.1
  have hbt := hI.2.2.2.2
  obtain ⟨⟨⟨p1, p2, p3, p4, p5⟩, ⟨y1, y2, y3⟩, ⟨x1, x2, x3⟩, v1, v2, v3⟩, hRs, hRc, hRf⟩ := id hR
  obtain ⟨n1, n2, n3, n4, n5⟩ := id hN
  refine e_aload_n dX8_type_0 rfl rfl ?_
  refine e_iload_n dX8_type_1 rfl rfl ?_
  refine e_callV (As := [zI _]) (cb := 9) dX8_type_2 moX8_clientAt mvX8_clientAt mlX8_139 (by decide) rfl (show zK _ 2 = 9 + 1 from p1) rfl (Nat.le_of_ble_eq_true rfl) ⟨by decide, by decide, by decide, by decide⟩ (c_X8_clientAt hl hR hN c hcz) (fun E h9 q => by (obtain ⟨e2, hz, e1⟩ := Qat_r q); subst e1; subst e2; exact AX_out rfl (by decide) (by decide) (QC_no (x := 1) (by first | (rw [if_pos (by omega)]; done) | (rw [if_neg (by omega), if_pos (by omega)]; done) | (rw [if_neg (by omega), if_neg (by omega), if_pos (by omega)]; done) | (rw [if_neg (by omega), if_neg (by omega), if_neg (by omega), if_pos (by omega)]; done)) (by decide) rfl (fun _ _ => eqAt_rf) hR)) (fun v h9 q => ?_)
  obtain ⟨e2, hc0, e1⟩ := Qat_l q; cases e1; rw [e2]; clear q e2 h9
  obtain ⟨hCl, hCh⟩ := hRc c hc0
  obtain ⟨r1, r2, r3, r4, r5, r6, r7, r8⟩ := id hCl
  have K3 : zK h (nC c) = 2 + 1 := r1
  have hcs := hIC c hc0.1 hc0.2
  have hss : isS S (S 35 c) := ⟨hcs.1, hcs.2⟩
  obtain ⟨hV, ⟨ed, cp, kn, hK⟩, hC, hWn, hCp, hT, hRr, hRr0⟩ := hRs (S 35 c) hss
  obtain ⟨⟨s0, s4⟩, -, -, -, hSo, hP, hWs⟩ := id hV
  obtain ⟨w1, w2, w3, w4, w5, w6, w7, w8, w9⟩ := id hSo
  have K6 : zK h (nS (S 35 c)) = 6 + 1 := w1
  have hn5 := n5 (S 35 c) s0 s4
  have htp := topOf_in (s := S 35 c) hN hIO s0 s4
  refine e_astore_n dX8_type_5 rfl (by decide) rfl rfl ?_
  refine e_iload_n dX8_type_6 rfl rfl ?_
  refine e_bipush dX8_type_7 (by decide) ?_
  refine e_icmp_lt (tgt := 18) dX8_type_9 (by decide) (by omega) (by omega) (fun c9 => ?_) (fun c9 => ?_)
  · skip
    refine e_throw (cls := "java/lang/IllegalArgumentException") (text := "it is no letter from a to z") dX8_type_18 dX8_type_21 dX8_type_22 dX8_type_24 dX8_type_27 (by decide +kernel) txX8_48 txI_IllegalArgumentException (by decide +kernel) (by decide +kernel) zatX8_52 rfl (by decide) (by decide) (Nat.le_of_ble_eq_true rfl) (by decide) (by decide) ?_
    first
      | exact QC_no (x := 1) (by first | (rw [if_pos (by omega)]; done) | (rw [if_neg (by omega), if_pos (by omega)]; done) | (rw [if_neg (by omega), if_neg (by omega), if_pos (by omega)]; done) | (rw [if_neg (by omega), if_neg (by omega), if_neg (by omega), if_pos (by omega)]; done)) (by decide) rfl (fun _ _ => eqAt_rf) hR
      | exact QC_no (x := 2) (by first | (rw [if_pos (by omega)]; done) | (rw [if_neg (by omega), if_pos (by omega)]; done) | (rw [if_neg (by omega), if_neg (by omega), if_pos (by omega)]; done) | (rw [if_neg (by omega), if_neg (by omega), if_neg (by omega), if_pos (by omega)]; done)) (by decide) rfl (fun _ _ => eqAt_rf) hR
      | exact QC_no (x := 3) (by first | (rw [if_pos (by omega)]; done) | (rw [if_neg (by omega), if_pos (by omega)]; done) | (rw [if_neg (by omega), if_neg (by omega), if_pos (by omega)]; done) | (rw [if_neg (by omega), if_neg (by omega), if_neg (by omega), if_pos (by omega)]; done)) (by decide) rfl (fun _ _ => eqAt_rf) hR
      | exact QC_no (x := 4) (by first | (rw [if_pos (by omega)]; done) | (rw [if_neg (by omega), if_pos (by omega)]; done) | (rw [if_neg (by omega), if_neg (by omega), if_pos (by omega)]; done) | (rw [if_neg (by omega), if_neg (by omega), if_neg (by omega), if_pos (by omega)]; done)) (by decide) rfl (fun _ _ => eqAt_rf) hR
  · skip
    refine e_iload_n dX8_type_12 rfl rfl ?_
    refine e_bipush dX8_type_13 (by decide) ?_
    refine e_icmp_le (tgt := 28) dX8_type_15 (by decide) (by omega) (by omega) (fun c15 => ?_) (fun c15 => ?_)
    · skip
      refine e_aload_n dX8_type_28 rfl rfl ?_
      refine e_getR dX8_type_29 flX8_150 rfl K3 r2 ?_
      refine e_astore dX8_type_32 (by decide) rfl rfl ?_
      refine e_aload dX8_type_34 rfl ?_
      refine e_callV (As := []) (cb := 6) dX8_type_36 moX5_topShown mvX5_topShown mlX8_186 (by decide) rfl K6 rfl (Nat.le_of_ble_eq_true rfl) ⟨by decide, by decide, by decide, by decide⟩ (c_X5_topShown hl hV (fun w => hbt 11 (by decide) w)) (fun E h1 q => by cases q.1) (fun v h9 q => ?_)
      obtain ⟨e1, e2⟩ := q; cases e1; rw [e2]; clear e2 h9
      refine e_astore dX8_type_39 (by decide) rfl rfl ?_
      refine e_aload dX8_type_41 rfl ?_
      refine e_ifnonnull (tgt := 56) dX8_type_43 (by decide) (fun r43 c43 => ?_) (fun c43 => ?_)
      · skip
        rw [c43]
        obtain ⟨z9, z8⟩ := wRef_some c43
        subst z8
        have hW := htp.resolve_left (by omega)
        have hW1 := hIW _ _ hW.1
        have hkw := sg_in1 (f := fun k => b2 (S 18 (20 * S 35 c + k) = topOf S (S 35 c))) (fun _ _ => b2_le) (S 17 (S 35 c)) (by omega)
        refine e_aload dX8_type_56 rfl ?_
        refine e_getR dX8_type_58 flX8_195 rfl K6 w4 ?_
        refine e_callV (As := []) (cb := 0) dX8_type_61 moJx4a65c_size_8abf5 mvJx4a65c_size_8abf5 mlX8_198 (by decide) rfl hK.1.1 rfl (Nat.le_of_ble_eq_true rfl) ⟨by decide, by decide, by decide, by decide⟩ (c_Jx4a65c_size_8abf5 hl hK.1) (fun E h1 q => by cases q.1) (fun v h9 q => ?_)
        obtain ⟨e1, e2⟩ := q; cases e1; rw [e2]; clear e2 h9
        refine e_bipush dX8_type_64 (by decide) ?_
        refine e_icmp_lt (tgt := 79) dX8_type_66 (by decide) (by omega) (by omega) (fun c66 => ?_) (fun c66 => ?_)
        · skip
          refine e_aload dX8_type_79 rfl ?_
          refine e_aload dX8_type_81 rfl ?_
          refine e_aload dX8_type_83 rfl ?_
          refine e_callV (As := [zR _]) (cb := 6) dX8_type_85 moX5_countKeysOf mvX5_countKeysOf mlX8_203 (by decide) rfl K6 rfl (Nat.le_of_ble_eq_true rfl) ⟨by decide, by decide, by decide, by decide⟩ (c_X5_countKeysOf hl hSo hK s0 s4 hN hIK (topOf S (S 35 c)) z9) (fun E h1 q => by cases q.1) (fun v h9 q => ?_)
          obtain ⟨e1, e2⟩ := q; cases e1; rw [e2]; clear e2 h9
          refine e_callV (As := [zI _]) (cb := 8) dX8_type_88 moX7_cellAhead mvX7_cellAhead mlX8_206 (by decide) rfl (show zK h (nW (topOf S (S 35 c))) = 8 + 1 from (hWs _ hW.1).1) rfl (Nat.le_of_ble_eq_true rfl) ⟨by decide, by decide, by decide, by decide⟩ (c_X7_cellAhead hl (hWs _ hW.1) hW1 _ hkw.1 (by omega)) (fun E h1 q => by cases q.1) (fun v h9 q => ?_)
          obtain ⟨e1, e2⟩ := q; cases e1; rw [e2]; clear e2 h9
          refine e_istore dX8_type_91 (by decide) rfl rfl ?_
          refine e_aload dX8_type_93 rfl ?_
          refine e_getR dX8_type_95 flX8_195 rfl K6 w4 ?_
          refine e_fresh 10000 (fun a ha hfa => ?_)
          refine e_new (ci := 4) a dX8_type_98 (by decide) clX8_159 tn_X3.1 tn_X3.2 (by omega) hfa (by decide) (by decide) ?_
          refine e_dup dX8_type_101 rfl ?_
          refine e_aload_n dX8_type_102 rfl rfl ?_
          refine e_aload dX8_type_103 rfl ?_
          refine e_iload dX8_type_105 rfl ?_
          refine e_bipush dX8_type_107 (by decide) ?_
          refine e_iload_n dX8_type_109 rfl rfl ?_
          refine e_bipush dX8_type_110 (by decide) ?_
          refine e_isub dX8_type_112 ?_
          refine e_iconst dX8_type_113 ?_
          refine e_iadd dX8_type_114 ?_
          refine e_iadd dX8_type_115 ?_
          refine e_callI (As := [zR _, zR _, zI _, zI _]) dX8_type_116 moX3_init miX3_init rfl rfl mlX8_210 rfl (Nat.le_of_ble_eq_true rfl) ⟨by decide, by decide, by decide, by decide⟩ (c_X3_init hl (h := nw h a (4 + 1) 0) a (nC c) (nW (topOf S (S 35 c))) (if_pos rfl) _ _ (by have qa := area_le hW1.2.2.2.2.1 hW1.2.2.2.2.2.1 hW1.2.2.2.2.2.2.1 hW1.2.2.2.2.2.2.2.1; have := Int.emod_lt_of_pos (S 9 (topOf S (S 35 c)) + sg (fun k => b2 (S 18 (20 * S 35 c + k) = topOf S (S 35 c))) (S 17 (S 35 c)).toNat) (b := S 7 (topOf S (S 35 c)) * S 8 (topOf S (S 35 c))) (by omega); have := Int.emod_nonneg (S 9 (topOf S (S 35 c)) + sg (fun k => b2 (S 18 (20 * S 35 c + k) = topOf S (S 35 c))) (S 17 (S 35 c)).toNat) (b := S 7 (topOf S (S 35 c)) * S 8 (topOf S (S 35 c))) (by omega); omega) (by omega)) (fun E h1 q => by cases q.1) (fun v h1 q => ?_)
          obtain ⟨e1, e2⟩ := q; cases e1
          rename zH => h8
          have fr8 : ∀ m, m ≠ a → eqAt m h h8 := fun m hm => by rw [e2]; exact eqAt_tr (eqAt_tr (eqAt_tr (eqAt_tr (eqAt_nw hm) (eqAt_sr hm)) (eqAt_sr hm)) (eqAt_sf hm)) (eqAt_sf hm)
          have g0 : zK h8 a = 5 := by rw [e2]; exact if_pos rfl
          have g1 : zr h8 400 a = some (nC c) := by rw [e2]; simp [s_rf, s_rr, s_rn]
          have g2 : zr h8 401 a = some (nW (topOf S (S 35 c))) := by rw [e2]; simp [s_rf, s_rr, s_rn]
          have g3 : zf h8 402 a = (S 9 (topOf S (S 35 c)) + keysW S (S 35 c) (topOf S (S 35 c))) % (S 7 (topOf S (S 35 c)) * S 8 (topOf S (S 35 c))) := by rw [e2]; simp [s_ff, s_fr, s_fn]; rfl
          have g4 : zf h8 403 a = 101 + t - 97 := by rw [e2]; simp [s_ff, s_fr, s_fn]; omega
          clear e2
          have hnS : nS (S 35 c) ≤ 4000 := by unfold nS; omega
          have K8 := RKx_at2 (fr8 _ (by omega)) (fr8 _ (by omega)) (fr8 _ (by omega)) (fr8 _ (by omega)) (fun m _ hm => fr8 m (fun z => by rw [z] at hm; exact hm hfa)) hK
          have hgw := key_GW hl hG K8 (by omega)
          obtain ⟨gw1, gw2, gw3, gw4, gw5⟩ := hgw
          have hed : edK (S 35 c) ed cp (S 17 (S 35 c)) ≠ nS (S 35 c) + 3 ∧ edK (S 35 c) ed cp (S 17 (S 35 c)) < 10000 ∧ 16 ≤ edK (S 35 c) ed cp (S 17 (S 35 c)) - nS (S 35 c) ∧ edK (S 35 c) ed cp (S 17 (S 35 c)) - nS (S 35 c) ≤ 18 := by omega
          refine e_callV (As := [zR _]) (cb := 0) dX8_type_119 moJx4a65c_add_9ea2d mvJx4a65c_add_9ea2d mlX8_101 (by decide) rfl (K8.1.1) rfl (Nat.le_of_ble_eq_true rfl) ⟨by decide, by decide, by decide, by decide⟩ (c_Jx4a65c_add_9ea2d hl K8.1 gw1 gw2 (by omega) (by omega) a 4 (by decide) (by decide) g0 (by omega) (by omega)) (fun E h1 q => by cases q.1) (fun v h9 q => ?_)
          rename zH => h9
          obtain ⟨e1, hA9, fr9⟩ := q; cases e1
          have hI4 := I4_type (t := t) (II_4 hI) hc0 (by omega) (by omega)
          have frr : ∀ m, m < 10000 ∨ zK h m ≠ 0 → m ≠ nS (S 35 c) + 3 → m ≠ edK (S 35 c) ed cp (S 17 (S 35 c)) → eqAt m h h9 := fun m hm m1 m2 => eqAt_tr (fr8 m (fun z => by rcases hm with hm | hm; (omega); (rw [z] at hm; exact hm hfa))) (fr9 m m1 m2)
          have hKn := RKx_add (t := t) hN s0 s4 K8 ha g0 (fun k k0 k1 z => by have := (hK.2.2 k k0 k1).2.1; rw [z] at this; omega) g1 g2 g3 g4 hA9 fr9 gw5
          have hfin : RC (typS S c t) h9 := RC_ses2 hI hI4.1 hss (fun f j hj => typS_in f j hn5.2.2.2.2.1 (by omega) hj) (RSes_key hI4.1 (fun f hf j => typS_f hf) (fun m m3 m16 m17 m18 m1 => frr m (Or.inl m1) m3 (by omega)) ⟨_, _, _, hKn⟩ (hRs (S 35 c) hss)) (fun m hm hz => frr m hz (fun z => (nmS_no hm).1 3 (by decide) z) (fun z => (nmS_no hm).1 (edK (S 35 c) ed cp (S 17 (S 35 c)) - nS (S 35 c)) (by omega) (by omega))) (fun w y0 y1 => by
            rw [typS_f (by decide)] at y0
            have hz := hRf.2.1 (S 35 c) w s0 s4 y0 y1
            have hNW : 6000 ≤ nW w ∧ nW w < 9000 := by unfold nW; omega
            exact ⟨(frr (nW w) (Or.inl (by omega)) (by omega) (by omega)).1.trans hz.1, (frr (nW w + 1) (Or.inl (by omega)) (by omega) (by omega)).1.trans hz.2⟩) hR
          have c9 := frr (nS (S 35 c)) (Or.inl (by omega)) (by omega) (by omega)
          refine e_pop dX8_type_122 rfl ?_
          refine e_aload dX8_type_123 rfl ?_
          refine e_getR dX8_type_125 flX8_195 rfl (c9.1.trans w1) ((c9.2.2.2.2.1 602).trans w4) ?_
          refine e_callV (As := []) (cb := 0) dX8_type_128 moJx4a65c_size_8abf5 mvJx4a65c_size_8abf5 mlX8_198 (by decide) rfl hA9.1 rfl (Nat.le_of_ble_eq_true rfl) ⟨by decide, by decide, by decide, by decide⟩ (c_Jx4a65c_size_8abf5 hl hA9) (fun E h1 q => by cases q.1) (fun v h1 q => ?_)
          obtain ⟨e1, e2⟩ := q; cases e1; rw [e2]; clear e2
          refine e_iret dX8_type_131 rfl trivial (by decide) (by decide) ?_
          exact QC_ok (by first | (rw [if_neg (by omega)]; done) | (rw [if_neg (by omega), if_neg (by omega)]; done) | (rw [if_neg (by omega), if_neg (by omega), if_neg (by omega)]; done) | (rw [if_neg (by omega), if_neg (by omega), if_neg (by omega), if_neg (by omega)]; done)) rfl (fun m hm => frr m (Or.inl (by omega)) (by unfold nS; omega) (by unfold nS at hed hnS; omega)) hfin
        · skip
          refine e_throw (cls := "java/lang/IllegalStateException") (text := "20 keys of the session wait") dX8_type_69 dX8_type_72 dX8_type_73 dX8_type_75 dX8_type_78 (by decide +kernel) txX8_30 txI_IllegalStateException (by decide +kernel) (by decide +kernel) zatX8_34 rfl (by decide) (by decide) (Nat.le_of_ble_eq_true rfl) (by decide) (by decide) ?_
          first
            | exact QC_no (x := 1) (by first | (rw [if_pos (by omega)]; done) | (rw [if_neg (by omega), if_pos (by omega)]; done) | (rw [if_neg (by omega), if_neg (by omega), if_pos (by omega)]; done) | (rw [if_neg (by omega), if_neg (by omega), if_neg (by omega), if_pos (by omega)]; done)) (by decide) rfl (fun _ _ => eqAt_rf) hR
            | exact QC_no (x := 2) (by first | (rw [if_pos (by omega)]; done) | (rw [if_neg (by omega), if_pos (by omega)]; done) | (rw [if_neg (by omega), if_neg (by omega), if_pos (by omega)]; done) | (rw [if_neg (by omega), if_neg (by omega), if_neg (by omega), if_pos (by omega)]; done)) (by decide) rfl (fun _ _ => eqAt_rf) hR
            | exact QC_no (x := 3) (by first | (rw [if_pos (by omega)]; done) | (rw [if_neg (by omega), if_pos (by omega)]; done) | (rw [if_neg (by omega), if_neg (by omega), if_pos (by omega)]; done) | (rw [if_neg (by omega), if_neg (by omega), if_neg (by omega), if_pos (by omega)]; done)) (by decide) rfl (fun _ _ => eqAt_rf) hR
            | exact QC_no (x := 4) (by first | (rw [if_pos (by omega)]; done) | (rw [if_neg (by omega), if_pos (by omega)]; done) | (rw [if_neg (by omega), if_neg (by omega), if_pos (by omega)]; done) | (rw [if_neg (by omega), if_neg (by omega), if_neg (by omega), if_pos (by omega)]; done)) (by decide) rfl (fun _ _ => eqAt_rf) hR
      · skip
        have z9 := wRef_none c43
        refine e_throw (cls := "java/lang/UnsupportedOperationException") (text := "no window is shown") dX8_type_46 dX8_type_49 dX8_type_50 dX8_type_52 dX8_type_55 (by decide +kernel) txX8_190 txI_UnsupportedOperationException (by decide +kernel) (by decide +kernel) zatX8_194 rfl (by decide) (by decide) (Nat.le_of_ble_eq_true rfl) (by decide) (by decide) ?_
        first
          | exact QC_no (x := 1) (by first | (rw [if_pos (by omega)]; done) | (rw [if_neg (by omega), if_pos (by omega)]; done) | (rw [if_neg (by omega), if_neg (by omega), if_pos (by omega)]; done) | (rw [if_neg (by omega), if_neg (by omega), if_neg (by omega), if_pos (by omega)]; done)) (by decide) rfl (fun _ _ => eqAt_rf) hR
          | exact QC_no (x := 2) (by first | (rw [if_pos (by omega)]; done) | (rw [if_neg (by omega), if_pos (by omega)]; done) | (rw [if_neg (by omega), if_neg (by omega), if_pos (by omega)]; done) | (rw [if_neg (by omega), if_neg (by omega), if_neg (by omega), if_pos (by omega)]; done)) (by decide) rfl (fun _ _ => eqAt_rf) hR
          | exact QC_no (x := 3) (by first | (rw [if_pos (by omega)]; done) | (rw [if_neg (by omega), if_pos (by omega)]; done) | (rw [if_neg (by omega), if_neg (by omega), if_pos (by omega)]; done) | (rw [if_neg (by omega), if_neg (by omega), if_neg (by omega), if_pos (by omega)]; done)) (by decide) rfl (fun _ _ => eqAt_rf) hR
          | exact QC_no (x := 4) (by first | (rw [if_pos (by omega)]; done) | (rw [if_neg (by omega), if_pos (by omega)]; done) | (rw [if_neg (by omega), if_neg (by omega), if_pos (by omega)]; done) | (rw [if_neg (by omega), if_neg (by omega), if_neg (by omega), if_pos (by omega)]; done)) (by decide) rfl (fun _ _ => eqAt_rf) hR
    · skip
      refine e_throw (cls := "java/lang/IllegalArgumentException") (text := "it is no letter from a to z") dX8_type_18 dX8_type_21 dX8_type_22 dX8_type_24 dX8_type_27 (by decide +kernel) txX8_48 txI_IllegalArgumentException (by decide +kernel) (by decide +kernel) zatX8_52 rfl (by decide) (by decide) (Nat.le_of_ble_eq_true rfl) (by decide) (by decide) ?_
      first
        | exact QC_no (x := 1) (by first | (rw [if_pos (by omega)]; done) | (rw [if_neg (by omega), if_pos (by omega)]; done) | (rw [if_neg (by omega), if_neg (by omega), if_pos (by omega)]; done) | (rw [if_neg (by omega), if_neg (by omega), if_neg (by omega), if_pos (by omega)]; done)) (by decide) rfl (fun _ _ => eqAt_rf) hR
        | exact QC_no (x := 2) (by first | (rw [if_pos (by omega)]; done) | (rw [if_neg (by omega), if_pos (by omega)]; done) | (rw [if_neg (by omega), if_neg (by omega), if_pos (by omega)]; done) | (rw [if_neg (by omega), if_neg (by omega), if_neg (by omega), if_pos (by omega)]; done)) (by decide) rfl (fun _ _ => eqAt_rf) hR
        | exact QC_no (x := 3) (by first | (rw [if_pos (by omega)]; done) | (rw [if_neg (by omega), if_pos (by omega)]; done) | (rw [if_neg (by omega), if_neg (by omega), if_pos (by omega)]; done) | (rw [if_neg (by omega), if_neg (by omega), if_neg (by omega), if_pos (by omega)]; done)) (by decide) rfl (fun _ _ => eqAt_rf) hR
        | exact QC_no (x := 4) (by first | (rw [if_pos (by omega)]; done) | (rw [if_neg (by omega), if_pos (by omega)]; done) | (rw [if_neg (by omega), if_neg (by omega), if_pos (by omega)]; done) | (rw [if_neg (by omega), if_neg (by omega), if_neg (by omega), if_pos (by omega)]; done)) (by decide) rfl (fun _ _ => eqAt_rf) hR
