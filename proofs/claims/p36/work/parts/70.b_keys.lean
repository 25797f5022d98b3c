set_option maxHeartbeats 4000000 in
set_option maxRecDepth 100000 in
theorem c_X5_countKeysOf {l : Launch} (hl : l.stackTraces = false) {S : S9} {h : zH} {s : Int} (hso : RSo S h s) {ed : Nat} {cp : Int} {kn : Int → Nat} (hK : RKx S h s ed cp kn) (s0 : 0 ≤ s) (s1 : s < 4) (hN : IN S) (hk : IK S) (w : Int) (hw : 0 ≤ w) : zC l MX5_countKeysOf [zR (some (nS s)), zR (some (nW w))] h (fun o h' => o = .inl (some (zI (sg (fun k => b2 (S 18 (20 * s + k) = w)) (S 17 s).toNat))) ∧ h' = h) := by
  refine zC_of hl rfl rfl (by decide) rfl rfl (Nat.le_of_ble_eq_true rfl) ?_
  obtain ⟨o1, o2, o3, o4, o5, o6, o7, o8, o9⟩ := id hso
  obtain ⟨hL, -, hks⟩ := id hK
  have hL1 := hL.1
  have hn := hN.2.2.2.2 s s0 s1
  refine e_iconst dX5_countKeysOf_0 ?_
  refine e_istore_n dX5_countKeysOf_1 rfl (by decide) rfl rfl ?_
  refine e_iconst dX5_countKeysOf_2 ?_
  refine e_istore_n dX5_countKeysOf_3 rfl (by decide) rfl rfl ?_
  have lp4 : ∀ (d : Nat) (i v : Int), (S 17 s - i).toNat < d → 0 ≤ i → i ≤ S 17 s → v = sg (fun k => b2 (S 18 (20 * s + k) = w)) i.toNat → AW l MX5_countKeysOf (fun o h' => o = .inl (some (zI (sg (fun k => b2 (S 18 (20 * s + k) = w)) (S 17 s).toNat))) ∧ h' = h) 0 0 4 [zR (some (nS s)), zR (some (nW w)), zI v, zI i] [] h := by
    intro d
    induction d with
    | zero => intro i v hd i0 i1 hv; exact absurd hd (by omega)
    | succ d ih =>
      have ih4 := ih
      intro i v hd i0 i1 hv
      have cc := sg_in1 (f := (fun k => b2 (S 18 (20 * s + k) = w))) (fun _ _ => b2_le) i i0
      refine e_iload_n dX5_countKeysOf_4 rfl rfl ?_
      refine e_aload_n dX5_countKeysOf_5 rfl rfl ?_
      refine e_getR dX5_countKeysOf_6 flX5_24 rfl (by assumption) (by assumption) ?_
      refine e_callV (As := []) (cb := 0) dX5_countKeysOf_9 moJx4a65c_size_8abf5 mvJx4a65c_size_8abf5 mlX5_57 (by decide) rfl (show zK h (nS s + 3) = 0 + 1 from hL1) rfl (Nat.le_of_ble_eq_true rfl) ⟨by decide, by decide, by decide, by decide⟩ (c_Jx4a65c_size_8abf5 hl hL) (fun E h1 q => by cases q.1) (fun v h9 q => ?_)
      obtain ⟨e1, e2⟩ := q; cases e1; rw [e2]; clear e2 h9
      refine e_icmp_ge (tgt := 42) dX5_countKeysOf_12 (by decide) (by omega) (by omega) (fun c12 => ?_) (fun c12 => ?_)
      · skip
        refine e_iload_n dX5_countKeysOf_42 rfl rfl ?_
        refine e_iret dX5_countKeysOf_43 rfl trivial (by decide) (by decide) ?_
        exact ⟨zqe (by rw [hv, show i = S 17 s by omega]), rfl⟩
      · skip
        refine e_aload_n dX5_countKeysOf_15 rfl rfl ?_
        refine e_getR dX5_countKeysOf_16 flX5_24 rfl (by assumption) (by assumption) ?_
        refine e_iload_n dX5_countKeysOf_19 rfl rfl ?_
        refine e_callV (As := [zI _]) (cb := 0) dX5_countKeysOf_20 moJx4a65c_get_915e3 mvJx4a65c_get_915e3 mlX5_60 (by decide) rfl (show zK h (nS s + 3) = 0 + 1 from hL1) rfl (Nat.le_of_ble_eq_true rfl) ⟨by decide, by decide, by decide, by decide⟩ (c_Jx4a65c_get_915e3 hl hL i (by omega) (by omega)) (fun E h1 q => by cases q.1) (fun v h9 q => ?_)
        obtain ⟨e1, e2⟩ := q; cases e1; rw [e2]; clear e2 h9
        obtain ⟨k0, k1, k2, k3, k4, k5⟩ := hks i (by omega) (by omega)
        have ik := hk s i s0 s1 (by omega) (by omega)
        obtain ⟨ik1, ik2, ik3, ik4, ik5⟩ := id ik
        refine e_cast (cb := 4) dX5_countKeysOf_23 clX5_100 (by decide) (show zK h (kn i) = 4 + 1 from k1) ?_
        refine e_getR dX5_countKeysOf_26 flX5_102 rfl (show zK h (kn i) = 4 + 1 from k1) k3 ?_
        refine e_aload_n dX5_countKeysOf_29 rfl rfl ?_
        refine e_acmp_ne (tgt := 36) dX5_countKeysOf_30 (by decide) (fun c30 => ?_) (fun c30 => ?_)
        · skip
          refine e_iinc dX5_countKeysOf_36 (by decide) rfl rfl rfl rfl ?_
          refine e_goto (tgt := 4) dX5_countKeysOf_39 (by decide) ?_
          refine ih4 _ _ (by omega) (by omega) (by omega) ?_
          rw [sg_s i0, ← hv]
          first
            | (rw [b2_t (nW_i (by omega) hw c30)]; done)
            | (rw [b2_f (fun z => c30 (nW_e z)), Int.add_zero]; done)
        · skip
          refine e_iinc dX5_countKeysOf_33 (by decide) rfl rfl rfl rfl ?_
          refine e_iinc dX5_countKeysOf_36 (by decide) rfl rfl rfl rfl ?_
          refine e_goto (tgt := 4) dX5_countKeysOf_39 (by decide) ?_
          refine ih4 _ _ (by omega) (by omega) (by omega) ?_
          rw [sg_s i0, ← hv]
          first
            | (rw [b2_t (nW_i (by omega) hw c30)]; done)
            | (rw [b2_f (fun z => c30 (nW_e z)), Int.add_zero]; done)
  exact lp4 (S 17 s + 1).toNat 0 0 (by omega) (by omega) (by omega) rfl
set_option maxHeartbeats 4000000 in
set_option maxRecDepth 100000 in
theorem c_X5_countKeysBy {l : Launch} (hl : l.stackTraces = false) {S : S9} {h : zH} {s : Int} (hso : RSo S h s) {ed : Nat} {cp : Int} {kn : Int → Nat} (hK : RKx S h s ed cp kn) (s0 : 0 ≤ s) (s1 : s < 4) (hN : IN S) (hk : IK S) (c : Int) (hc : 0 ≤ c) : zC l MX5_countKeysBy [zR (some (nS s)), zR (some (nC c))] h (fun o h' => o = .inl (some (zI (sg (fun k => b2 (S 21 (20 * s + k) = c)) (S 17 s).toNat))) ∧ h' = h) := by
  refine zC_of hl rfl rfl (by decide) rfl rfl (Nat.le_of_ble_eq_true rfl) ?_
  obtain ⟨o1, o2, o3, o4, o5, o6, o7, o8, o9⟩ := id hso
  obtain ⟨hL, -, hks⟩ := id hK
  have hL1 := hL.1
  have hn := hN.2.2.2.2 s s0 s1
  refine e_iconst dX5_countKeysBy_0 ?_
  refine e_istore_n dX5_countKeysBy_1 rfl (by decide) rfl rfl ?_
  refine e_iconst dX5_countKeysBy_2 ?_
  refine e_istore_n dX5_countKeysBy_3 rfl (by decide) rfl rfl ?_
  have lp4 : ∀ (d : Nat) (i v : Int), (S 17 s - i).toNat < d → 0 ≤ i → i ≤ S 17 s → v = sg (fun k => b2 (S 21 (20 * s + k) = c)) i.toNat → AW l MX5_countKeysBy (fun o h' => o = .inl (some (zI (sg (fun k => b2 (S 21 (20 * s + k) = c)) (S 17 s).toNat))) ∧ h' = h) 0 0 4 [zR (some (nS s)), zR (some (nC c)), zI v, zI i] [] h := by
    intro d
    induction d with
    | zero => intro i v hd i0 i1 hv; exact absurd hd (by omega)
    | succ d ih =>
      have ih4 := ih
      intro i v hd i0 i1 hv
      have cc := sg_in1 (f := (fun k => b2 (S 21 (20 * s + k) = c))) (fun _ _ => b2_le) i i0
      refine e_iload_n dX5_countKeysBy_4 rfl rfl ?_
      refine e_aload_n dX5_countKeysBy_5 rfl rfl ?_
      refine e_getR dX5_countKeysBy_6 flX5_24 rfl (by assumption) (by assumption) ?_
      refine e_callV (As := []) (cb := 0) dX5_countKeysBy_9 moJx4a65c_size_8abf5 mvJx4a65c_size_8abf5 mlX5_57 (by decide) rfl (show zK h (nS s + 3) = 0 + 1 from hL1) rfl (Nat.le_of_ble_eq_true rfl) ⟨by decide, by decide, by decide, by decide⟩ (c_Jx4a65c_size_8abf5 hl hL) (fun E h1 q => by cases q.1) (fun v h9 q => ?_)
      obtain ⟨e1, e2⟩ := q; cases e1; rw [e2]; clear e2 h9
      refine e_icmp_ge (tgt := 42) dX5_countKeysBy_12 (by decide) (by omega) (by omega) (fun c12 => ?_) (fun c12 => ?_)
      · skip
        refine e_iload_n dX5_countKeysBy_42 rfl rfl ?_
        refine e_iret dX5_countKeysBy_43 rfl trivial (by decide) (by decide) ?_
        exact ⟨zqe (by rw [hv, show i = S 17 s by omega]), rfl⟩
      · skip
        refine e_aload_n dX5_countKeysBy_15 rfl rfl ?_
        refine e_getR dX5_countKeysBy_16 flX5_24 rfl (by assumption) (by assumption) ?_
        refine e_iload_n dX5_countKeysBy_19 rfl rfl ?_
        refine e_callV (As := [zI _]) (cb := 0) dX5_countKeysBy_20 moJx4a65c_get_915e3 mvJx4a65c_get_915e3 mlX5_60 (by decide) rfl (show zK h (nS s + 3) = 0 + 1 from hL1) rfl (Nat.le_of_ble_eq_true rfl) ⟨by decide, by decide, by decide, by decide⟩ (c_Jx4a65c_get_915e3 hl hL i (by omega) (by omega)) (fun E h1 q => by cases q.1) (fun v h9 q => ?_)
        obtain ⟨e1, e2⟩ := q; cases e1; rw [e2]; clear e2 h9
        obtain ⟨k0, k1, k2, k3, k4, k5⟩ := hks i (by omega) (by omega)
        have ik := hk s i s0 s1 (by omega) (by omega)
        obtain ⟨ik1, ik2, ik3, ik4, ik5⟩ := id ik
        refine e_cast (cb := 4) dX5_countKeysBy_23 clX5_100 (by decide) (show zK h (kn i) = 4 + 1 from k1) ?_
        refine e_getR dX5_countKeysBy_26 flX5_106 rfl (show zK h (kn i) = 4 + 1 from k1) k2 ?_
        refine e_aload_n dX5_countKeysBy_29 rfl rfl ?_
        refine e_acmp_ne (tgt := 36) dX5_countKeysBy_30 (by decide) (fun c30 => ?_) (fun c30 => ?_)
        · skip
          refine e_iinc dX5_countKeysBy_36 (by decide) rfl rfl rfl rfl ?_
          refine e_goto (tgt := 4) dX5_countKeysBy_39 (by decide) ?_
          refine ih4 _ _ (by omega) (by omega) (by omega) ?_
          rw [sg_s i0, ← hv]
          first
            | (rw [b2_t (nC_i (by omega) hc c30)]; done)
            | (rw [b2_f (fun z => c30 (nC_e z)), Int.add_zero]; done)
        · skip
          refine e_iinc dX5_countKeysBy_33 (by decide) rfl rfl rfl rfl ?_
          refine e_iinc dX5_countKeysBy_36 (by decide) rfl rfl rfl rfl ?_
          refine e_goto (tgt := 4) dX5_countKeysBy_39 (by decide) ?_
          refine ih4 _ _ (by omega) (by omega) (by omega) ?_
          rw [sg_s i0, ← hv]
          first
            | (rw [b2_t (nC_i (by omega) hc c30)]; done)
            | (rw [b2_f (fun z => c30 (nC_e z)), Int.add_zero]; done)
  exact lp4 (S 17 s + 1).toNat 0 0 (by omega) (by omega) (by omega) rfl
set_option maxHeartbeats 4000000 in
set_option maxRecDepth 100000 in
theorem c_X5_lastGuessAt {l : Launch} (hl : l.stackTraces = false) {S : S9} {h : zH} {s : Int} (hso : RSo S h s) {ed : Nat} {cp : Int} {kn : Int → Nat} (hK : RKx S h s ed cp kn) (s0 : 0 ≤ s) (s1 : s < 4) (hN : IN S) (hk : IK S) (hI : IW S) (hW : RWs S h s) (c p : Int) (hc : 0 ≤ c) (hp : zin p) : zC l MX5_lastGuessAt [zR (some (nS s)), zR (some (nC c)), zI p] h (fun o h' => o = .inl (some (zR (kRef kn (lastK S c s p (S 17 s).toNat)))) ∧ h' = h) := by
  refine zC_of hl rfl rfl (by decide) rfl rfl (Nat.le_of_ble_eq_true rfl) ?_
  obtain ⟨o1, o2, o3, o4, o5, o6, o7, o8, o9⟩ := id hso
  obtain ⟨hL, -, hks⟩ := id hK
  have hL1 := hL.1
  have hn := hN.2.2.2.2 s s0 s1
  refine e_aload_n dX5_lastGuessAt_0 rfl rfl ?_
  refine e_getR dX5_lastGuessAt_1 flX5_24 rfl (by assumption) (by assumption) ?_
  refine e_callV (As := []) (cb := 0) dX5_lastGuessAt_4 moJx4a65c_size_8abf5 mvJx4a65c_size_8abf5 mlX5_57 (by decide) rfl (show zK h (nS s + 3) = 0 + 1 from hL1) rfl (Nat.le_of_ble_eq_true rfl) ⟨by decide, by decide, by decide, by decide⟩ (c_Jx4a65c_size_8abf5 hl hL) (fun E h1 q => by cases q.1) (fun v h9 q => ?_)
  obtain ⟨e1, e2⟩ := q; cases e1; rw [e2]; clear e2 h9
  refine e_iconst dX5_lastGuessAt_7 ?_
  refine e_isub dX5_lastGuessAt_8 ?_
  refine e_istore_n dX5_lastGuessAt_9 rfl (by decide) rfl rfl ?_
  have lp10 : ∀ (d : Nat) (i : Int), (i + 1).toNat < d → -1 ≤ i → i < S 17 s → lastK S c s p (i + 1).toNat = lastK S c s p (S 17 s).toNat → AW l MX5_lastGuessAt (fun o h' => o = .inl (some (zR (kRef kn (lastK S c s p (S 17 s).toNat)))) ∧ h' = h) 0 0 10 [zR (some (nS s)), zR (some (nC c)), zI p, zI i, zX] [] h := by
    intro d
    induction d with
    | zero => intro i hd i0 i1 hi; exact absurd hd (by omega)
    | succ d ih =>
      have ih10 := ih
      intro i hd i0 i1 hi
      have ex : 0 ≤ i → lastK S c s p (i + 1).toNat = if S 21 (20 * s + i) = c ∧ placeOf S (S 18 (20 * s + i)) (S 20 (20 * s + i)) = p then i else lastK S c s p (i + -1 + 1).toNat := fun z => by
        rw [show (i + 1).toNat = i.toNat + 1 by omega, lastK_s, show ((i.toNat : Nat) : Int) = i by omega, show (i + -1 + 1).toNat = i.toNat by omega]
      refine e_iload_n dX5_lastGuessAt_10 rfl rfl ?_
      refine e_if_lt (tgt := 62) dX5_lastGuessAt_11 (by decide) (by omega) (fun c11 => ?_) (fun c11 => ?_)
      · skip
        refine e_null dX5_lastGuessAt_62 ?_
        refine e_aret dX5_lastGuessAt_63 rfl rfl (by decide) (by decide) ?_
        exact ⟨by rw [← hi, show (i + 1).toNat = 0 by omega]; rfl, rfl⟩
      · skip
        refine e_aload_n dX5_lastGuessAt_14 rfl rfl ?_
        refine e_getR dX5_lastGuessAt_15 flX5_24 rfl (by assumption) (by assumption) ?_
        refine e_iload_n dX5_lastGuessAt_18 rfl rfl ?_
        refine e_callV (As := [zI _]) (cb := 0) dX5_lastGuessAt_19 moJx4a65c_get_915e3 mvJx4a65c_get_915e3 mlX5_60 (by decide) rfl (show zK h (nS s + 3) = 0 + 1 from hL1) rfl (Nat.le_of_ble_eq_true rfl) ⟨by decide, by decide, by decide, by decide⟩ (c_Jx4a65c_get_915e3 hl hL i (by omega) (by omega)) (fun E h1 q => by cases q.1) (fun v h9 q => ?_)
        obtain ⟨e1, e2⟩ := q; cases e1; rw [e2]; clear e2 h9
        obtain ⟨k0, k1, k2, k3, k4, k5⟩ := hks i (by omega) (by omega)
        have ik := hk s i s0 s1 (by omega) (by omega)
        obtain ⟨ik1, ik2, ik3, ik4, ik5⟩ := id ik
        refine e_cast (cb := 4) dX5_lastGuessAt_22 clX5_100 (by decide) (show zK h (kn i) = 4 + 1 from k1) ?_
        refine e_astore dX5_lastGuessAt_25 (by decide) rfl rfl ?_
        refine e_aload dX5_lastGuessAt_27 rfl ?_
        refine e_getR dX5_lastGuessAt_29 flX5_106 rfl (by assumption) (by assumption) ?_
        refine e_aload_n dX5_lastGuessAt_32 rfl rfl ?_
        refine e_acmp_ne (tgt := 56) dX5_lastGuessAt_33 (by decide) (fun c33 => ?_) (fun c33 => ?_)
        · skip
          refine e_iinc dX5_lastGuessAt_56 (by decide) rfl rfl rfl rfl ?_
          refine e_goto (tgt := 10) dX5_lastGuessAt_59 (by decide) ?_
          refine e_mask [true, true, true, true, false] ?_
          refine ih10 _ (by omega) (by omega) (by omega) ?_
          rw [ex (by omega)] at hi
          first
            | (rw [if_neg (fun z => c33 (nC_e z.1))] at hi; exact hi)
            | (rw [if_neg (fun z => c50 z.2)] at hi; exact hi)
        · skip
          refine e_aload dX5_lastGuessAt_36 rfl ?_
          refine e_getR dX5_lastGuessAt_38 flX5_102 rfl (by assumption) (by assumption) ?_
          refine e_aload dX5_lastGuessAt_41 rfl ?_
          refine e_getI dX5_lastGuessAt_43 flX5_110 rfl (by assumption) (by assumption) (fun r43 => ?_)
          have wb := hI _ _ ik1
          obtain ⟨w1, w2, w3, w4, w5, w6, w7, w8, w9, w10⟩ := id wb
          have wa := area_le w5 w6 w7 w8
          refine e_callV (As := [zI _]) (cb := 8) dX5_lastGuessAt_46 moX7_placeOf mvX7_placeOf mlX5_113 (by decide) rfl (show zK h (nW (S 18 (20 * s + i))) = 8 + 1 from (hW _ ik1).1) rfl (Nat.le_of_ble_eq_true rfl) ⟨by decide, by decide, by decide, by decide⟩ (c_X7_placeOf hl (hW _ ik1) wb _ (by omega) (by omega)) (fun E h1 q => by cases q.1) (fun v h9 q => ?_)
          obtain ⟨e1, e2⟩ := q; cases e1; rw [e2]; clear e2 h9
          refine e_iload_n dX5_lastGuessAt_49 rfl rfl ?_
          have pin := placeOf_in (S := S) (w := S 18 (20 * s + i)) (c := S 20 (20 * s + i))
          refine e_icmp_ne (tgt := 56) dX5_lastGuessAt_50 (by decide) (by omega) (by omega) (fun c50 => ?_) (fun c50 => ?_)
          · skip
            refine e_iinc dX5_lastGuessAt_56 (by decide) rfl rfl rfl rfl ?_
            refine e_goto (tgt := 10) dX5_lastGuessAt_59 (by decide) ?_
            refine e_mask [true, true, true, true, false] ?_
            refine ih10 _ (by omega) (by omega) (by omega) ?_
            rw [ex (by omega)] at hi
            first
              | (rw [if_neg (fun z => c33 (nC_e z.1))] at hi; exact hi)
              | (rw [if_neg (fun z => c50 z.2)] at hi; exact hi)
          · skip
            refine e_aload dX5_lastGuessAt_53 rfl ?_
            refine e_aret dX5_lastGuessAt_55 rfl rfl (by decide) (by decide) ?_
            exact ⟨by rw [← hi, ex (by omega), if_pos ⟨nC_i (by omega) hc c33, by omega⟩]; unfold kRef; rw [if_neg (by omega)], rfl⟩
  exact lp10 (S 17 s + 1).toNat _ (by omega) (by omega) (by omega) (by rw [show (S 17 s - 1 + 1).toNat = (S 17 s).toNat by omega])
