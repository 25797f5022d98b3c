set_option maxHeartbeats 4000000 in
set_option maxRecDepth 100000 in
theorem c_X9_rightShare {l : Launch} (hl : l.stackTraces = false) {S : S9} {h : zH} (hM : RM S h) {B : Int} (hN : IN S) (hB : IB S B) (hB9 : B ≤ 2000000000) (c : Int) (hc : zin c) : zC l MX9_rightShare [zR (some 99), zI c] h (QM S h (if ¬ isC S c then 1 else if S 38 c = 0 then 2 else 0) (zF FP.fconst0) (zF (fsh (S 39 c) (S 38 c))) S) := by
  refine zC_of hl rfl rfl (by decide) rfl rfl (Nat.le_of_ble_eq_true rfl) ?_
  have hM : MM S h h := MM_rf hM
  have hN2 := hN
  obtain ⟨n1, n2, n3, n4, n5⟩ := hN2
  refine e_aload_n dX9_rightShare_0 rfl rfl ?_
  refine e_iload_n dX9_rightShare_1 rfl rfl ?_
  refine e_callV (As := [zI _]) (cb := 10) dX9_rightShare_2 moX9_failsClient mvX9_failsClient mlX9_180 (by decide) rfl hM.1.1 rfl (Nat.le_of_ble_eq_true rfl) ⟨by decide, by decide, by decide, by decide⟩ (c_X9_failsClient hl hM.1 hN _ hc) (fun E h1 q => by cases q.1) (fun v h1 q => ?_)
  obtain ⟨e1, e2⟩ := q; cases e1; have ht := thr e2; have hM := MM_thr hM e2
  refine e_if_eq (tgt := 10) dX9_rightShare_5 (by decide) b2_in (fun c5 => ?_) (fun c5 => ?_)
  · skip
    try simp only [b2_0, b2_n0] at c5
    have b3 := hB.1 c (by omega) (by omega)
    refine e_aload_n dX9_rightShare_10 rfl rfl ?_
    refine e_aload_n dX9_rightShare_11 rfl rfl ?_
    refine m_arr 38 dX9_rightShare_12 flX9_113 rfl hM (by decide) ?_
    refine e_iload_n dX9_rightShare_15 rfl rfl ?_
    refine m_ld dX9_rightShare_16 hM (by decide) rfl (by omega) (by simp only [mL]; omega) rfl (fun r16 => ?_)
    refine e_if_ne (tgt := 24) dX9_rightShare_17 (by decide) (by omega) (fun c17 => ?_) (fun c17 => ?_)
    · skip
      try simp only [b2_0, b2_n0] at c17
      refine e_iconst dX9_rightShare_24 ?_
      refine e_callV (As := [zI _]) (cb := 10) dX9_rightShare_25 moX9_fails mvX9_fails mlX9_135 (by decide) rfl hM.1.1 rfl (Nat.le_of_ble_eq_true rfl) ⟨by decide, by decide, by decide, by decide⟩ (c_X9_fails hl hM.1 _ (by first | omega | exact b2_in)) (fun E h1 q => by cases q.1) (fun v h1 q => ?_)
      obtain ⟨e1, e2⟩ := q; cases e1; have ht := thr e2; have hM := MM_thr hM e2
      refine e_if_eq (tgt := 35) dX9_rightShare_28 (by decide) b2_in (fun c28 => ?_) (fun c28 => ?_)
      · skip
        try simp only [b2_0, b2_n0] at c28
        refine e_aload_n dX9_rightShare_35 rfl rfl ?_
        refine m_arr 39 dX9_rightShare_36 flX9_116 rfl hM (by decide) ?_
        refine e_iload_n dX9_rightShare_39 rfl rfl ?_
        refine m_ld dX9_rightShare_40 hM (by decide) rfl (by omega) (by simp only [mL]; omega) rfl (fun r40 => ?_)
        refine e_i2f dX9_rightShare_41 ?_
        refine e_aload_n dX9_rightShare_42 rfl rfl ?_
        refine m_arr 38 dX9_rightShare_43 flX9_113 rfl hM (by decide) ?_
        refine e_iload_n dX9_rightShare_46 rfl rfl ?_
        refine m_ld dX9_rightShare_47 hM (by decide) rfl (by omega) (by simp only [mL]; omega) rfl (fun r47 => ?_)
        refine e_i2f dX9_rightShare_48 ?_
        refine e_fdiv dX9_rightShare_49 (fsh_ok (by omega) (by omega) (by omega) (by omega)) ?_
        refine e_fret dX9_rightShare_50 rfl (by decide) (by decide) ?_
        first | exact QM_no (ht.trans (b2_t (by omega))) (by first | (rw [if_pos (by omega)]; done) | (rw [if_neg (by omega), if_pos (by omega)]; done) | (rw [if_neg (by omega), if_neg (by omega), if_pos (by omega)]; done) | (rw [if_neg (by omega), if_neg (by omega), if_neg (by omega), if_pos (by omega)]; done)) (by decide) hM | exact QM_no ht (by first | (rw [if_pos (by omega)]; done) | (rw [if_neg (by omega), if_pos (by omega)]; done) | (rw [if_neg (by omega), if_neg (by omega), if_pos (by omega)]; done) | (rw [if_neg (by omega), if_neg (by omega), if_neg (by omega), if_pos (by omega)]; done)) (by decide) hM | exact QM_ok (ht.trans (b2_f (by omega))) (by first | (rw [if_neg (by omega)]; done) | (rw [if_neg (by omega), if_neg (by omega)]; done) | (rw [if_neg (by omega), if_neg (by omega), if_neg (by omega)]; done) | (rw [if_neg (by omega), if_neg (by omega), if_neg (by omega), if_neg (by omega)]; done)) rfl hM | exact QM_ok ht (by first | (rw [if_neg (by omega)]; done) | (rw [if_neg (by omega), if_neg (by omega)]; done) | (rw [if_neg (by omega), if_neg (by omega), if_neg (by omega)]; done) | (rw [if_neg (by omega), if_neg (by omega), if_neg (by omega), if_neg (by omega)]; done)) rfl hM
      · skip
        try simp only [b2_0, b2_n0] at c28
        exfalso; omega
    · skip
      try simp only [b2_0, b2_n0] at c17
      refine e_iconst dX9_rightShare_20 ?_
      refine e_goto (tgt := 25) dX9_rightShare_21 (by decide) ?_
      refine e_callV (As := [zI _]) (cb := 10) dX9_rightShare_25 moX9_fails mvX9_fails mlX9_135 (by decide) rfl hM.1.1 rfl (Nat.le_of_ble_eq_true rfl) ⟨by decide, by decide, by decide, by decide⟩ (c_X9_fails hl hM.1 _ (by first | omega | exact b2_in)) (fun E h1 q => by cases q.1) (fun v h1 q => ?_)
      obtain ⟨e1, e2⟩ := q; cases e1; have ht := thr e2; have hM := MM_thr hM e2
      refine e_if_eq (tgt := 35) dX9_rightShare_28 (by decide) b2_in (fun c28 => ?_) (fun c28 => ?_)
      · skip
        try simp only [b2_0, b2_n0] at c28
        exfalso; omega
      · skip
        try simp only [b2_0, b2_n0] at c28
        refine e_fconst0 dX9_rightShare_31 ?_
        refine e_goto (tgt := 50) dX9_rightShare_32 (by decide) ?_
        refine e_fret dX9_rightShare_50 rfl (by decide) (by decide) ?_
        first | exact QM_no (ht.trans (b2_t (by omega))) (by first | (rw [if_pos (by omega)]; done) | (rw [if_neg (by omega), if_pos (by omega)]; done) | (rw [if_neg (by omega), if_neg (by omega), if_pos (by omega)]; done) | (rw [if_neg (by omega), if_neg (by omega), if_neg (by omega), if_pos (by omega)]; done)) (by decide) hM | exact QM_no ht (by first | (rw [if_pos (by omega)]; done) | (rw [if_neg (by omega), if_pos (by omega)]; done) | (rw [if_neg (by omega), if_neg (by omega), if_pos (by omega)]; done) | (rw [if_neg (by omega), if_neg (by omega), if_neg (by omega), if_pos (by omega)]; done)) (by decide) hM | exact QM_ok (ht.trans (b2_f (by omega))) (by first | (rw [if_neg (by omega)]; done) | (rw [if_neg (by omega), if_neg (by omega)]; done) | (rw [if_neg (by omega), if_neg (by omega), if_neg (by omega)]; done) | (rw [if_neg (by omega), if_neg (by omega), if_neg (by omega), if_neg (by omega)]; done)) rfl hM | exact QM_ok ht (by first | (rw [if_neg (by omega)]; done) | (rw [if_neg (by omega), if_neg (by omega)]; done) | (rw [if_neg (by omega), if_neg (by omega), if_neg (by omega)]; done) | (rw [if_neg (by omega), if_neg (by omega), if_neg (by omega), if_neg (by omega)]; done)) rfl hM
  · skip
    try simp only [b2_0, b2_n0] at c5
    refine e_fconst0 dX9_rightShare_8 ?_
    refine e_fret dX9_rightShare_9 rfl (by decide) (by decide) ?_
    first | exact QM_no (ht.trans (b2_t (by omega))) (by first | (rw [if_pos (by omega)]; done) | (rw [if_neg (by omega), if_pos (by omega)]; done) | (rw [if_neg (by omega), if_neg (by omega), if_pos (by omega)]; done) | (rw [if_neg (by omega), if_neg (by omega), if_neg (by omega), if_pos (by omega)]; done)) (by decide) hM | exact QM_no ht (by first | (rw [if_pos (by omega)]; done) | (rw [if_neg (by omega), if_pos (by omega)]; done) | (rw [if_neg (by omega), if_neg (by omega), if_pos (by omega)]; done) | (rw [if_neg (by omega), if_neg (by omega), if_neg (by omega), if_pos (by omega)]; done)) (by decide) hM | exact QM_ok (ht.trans (b2_f (by omega))) (by first | (rw [if_neg (by omega)]; done) | (rw [if_neg (by omega), if_neg (by omega)]; done) | (rw [if_neg (by omega), if_neg (by omega), if_neg (by omega)]; done) | (rw [if_neg (by omega), if_neg (by omega), if_neg (by omega), if_neg (by omega)]; done)) rfl hM | exact QM_ok ht (by first | (rw [if_neg (by omega)]; done) | (rw [if_neg (by omega), if_neg (by omega)]; done) | (rw [if_neg (by omega), if_neg (by omega), if_neg (by omega)]; done) | (rw [if_neg (by omega), if_neg (by omega), if_neg (by omega), if_neg (by omega)]; done)) rfl hM
set_option maxHeartbeats 4000000 in
set_option maxRecDepth 100000 in
theorem c_X9_meanBehind {l : Launch} (hl : l.stackTraces = false) {S : S9} {h : zH} (hM : RM S h) (hN : IN S) (hI : IW S) (hO : IO S) (hC : IC S) (hK : IK S)  : zC l MX9_meanBehind [zR (some 99)] h (QM S h (if S 2 0 = 0 then 1 else 0) (zD FP.dconst0) (zD (dsh (sumB S (S 2 0)) (S 2 0))) S) := by
  refine zC_of hl rfl rfl (by decide) rfl rfl (Nat.le_of_ble_eq_true rfl) ?_
  have hM : MM S h h := MM_rf hM
  have hN2 := hN
  obtain ⟨n1, n2, n3, n4, n5⟩ := hN2
  refine e_iconst dX9_meanBehind_0 ?_
  refine e_istore_n dX9_meanBehind_1 rfl (by decide) rfl rfl ?_
  refine e_iconst dX9_meanBehind_2 ?_
  refine e_istore_n dX9_meanBehind_3 rfl (by decide) rfl rfl ?_
  have lp4 : ∀ (d : Nat) (i v : Int), (S 2 0 - i).toNat < d → 0 ≤ i → i ≤ S 2 0 → v = sumB S i → AW l MX9_meanBehind (QM S h (if S 2 0 = 0 then 1 else 0) (zD FP.dconst0) (zD (dsh (sumB S (S 2 0)) (S 2 0))) S) 0 0 4 [zR (some 99), zI v, zI i] [] h := by
    intro d
    induction d with
    | zero => intro i v hd i0 i1 hv; exact absurd hd (by omega)
    | succ d ih =>
      have ih4 := ih
      intro i v hd i0 i1 hv
      have cc := sumB_in S i0 (by omega)
      have c2 := cntB_in S i
      refine e_iload_n dX9_meanBehind_4 rfl rfl ?_
      refine e_aload_n dX9_meanBehind_5 rfl rfl ?_
      refine m_get 2 dX9_meanBehind_6 flX9_174 rfl hM (by unfold mS; omega) rfl (fun r6 => ?_)
      refine e_icmp_ge (tgt := 26) dX9_meanBehind_9 (by decide) (by omega) (by omega) (fun c9 => ?_) (fun c9 => ?_)
      · skip
        have cc2 := sumB_in S n3 n4
        have hi : i = S 2 0 := by omega
        subst hv
        rw [hi]
        refine e_aload_n dX9_meanBehind_26 rfl rfl ?_
        refine e_aload_n dX9_meanBehind_27 rfl rfl ?_
        refine m_get 2 dX9_meanBehind_28 flX9_174 rfl hM (by unfold mS; omega) rfl (fun r28 => ?_)
        refine e_if_ne (tgt := 38) dX9_meanBehind_31 (by decide) (by omega) (fun c31 => ?_) (fun c31 => ?_)
        · skip
          try simp only [b2_0, b2_n0] at c31
          refine e_iconst dX9_meanBehind_38 ?_
          refine e_callV (As := [zI _]) (cb := 10) dX9_meanBehind_39 moX9_fails mvX9_fails mlX9_135 (by decide) rfl hM.1.1 rfl (Nat.le_of_ble_eq_true rfl) ⟨by decide, by decide, by decide, by decide⟩ (c_X9_fails hl hM.1 _ (by first | omega | exact b2_in)) (fun E h1 q => by cases q.1) (fun v h1 q => ?_)
          obtain ⟨e1, e2⟩ := q; cases e1; have ht := thr e2; have hM := MM_thr hM e2
          refine e_if_eq (tgt := 49) dX9_meanBehind_42 (by decide) b2_in (fun c42 => ?_) (fun c42 => ?_)
          · skip
            try simp only [b2_0, b2_n0] at c42
            refine e_iload_n dX9_meanBehind_49 rfl rfl ?_
            refine e_i2d dX9_meanBehind_50 ?_
            refine e_aload_n dX9_meanBehind_51 rfl rfl ?_
            refine m_get 2 dX9_meanBehind_52 flX9_174 rfl hM (by unfold mS; omega) rfl (fun r52 => ?_)
            refine e_i2d dX9_meanBehind_55 ?_
            refine e_ddiv dX9_meanBehind_56 (dsh_ok (by omega) (by omega) (by omega) (by omega)) ?_
            refine e_dret dX9_meanBehind_57 rfl (by decide) (by decide) ?_
            first | exact QM_no (ht.trans (b2_t (by omega))) (by first | (rw [if_pos (by omega)]; done) | (rw [if_neg (by omega), if_pos (by omega)]; done) | (rw [if_neg (by omega), if_neg (by omega), if_pos (by omega)]; done) | (rw [if_neg (by omega), if_neg (by omega), if_neg (by omega), if_pos (by omega)]; done)) (by decide) hM | exact QM_no ht (by first | (rw [if_pos (by omega)]; done) | (rw [if_neg (by omega), if_pos (by omega)]; done) | (rw [if_neg (by omega), if_neg (by omega), if_pos (by omega)]; done) | (rw [if_neg (by omega), if_neg (by omega), if_neg (by omega), if_pos (by omega)]; done)) (by decide) hM | exact QM_ok (ht.trans (b2_f (by omega))) (by first | (rw [if_neg (by omega)]; done) | (rw [if_neg (by omega), if_neg (by omega)]; done) | (rw [if_neg (by omega), if_neg (by omega), if_neg (by omega)]; done) | (rw [if_neg (by omega), if_neg (by omega), if_neg (by omega), if_neg (by omega)]; done)) rfl hM | exact QM_ok ht (by first | (rw [if_neg (by omega)]; done) | (rw [if_neg (by omega), if_neg (by omega)]; done) | (rw [if_neg (by omega), if_neg (by omega), if_neg (by omega)]; done) | (rw [if_neg (by omega), if_neg (by omega), if_neg (by omega), if_neg (by omega)]; done)) rfl hM
          · skip
            try simp only [b2_0, b2_n0] at c42
            exfalso; omega
        · skip
          try simp only [b2_0, b2_n0] at c31
          refine e_iconst dX9_meanBehind_34 ?_
          refine e_goto (tgt := 39) dX9_meanBehind_35 (by decide) ?_
          refine e_callV (As := [zI _]) (cb := 10) dX9_meanBehind_39 moX9_fails mvX9_fails mlX9_135 (by decide) rfl hM.1.1 rfl (Nat.le_of_ble_eq_true rfl) ⟨by decide, by decide, by decide, by decide⟩ (c_X9_fails hl hM.1 _ (by first | omega | exact b2_in)) (fun E h1 q => by cases q.1) (fun v h1 q => ?_)
          obtain ⟨e1, e2⟩ := q; cases e1; have ht := thr e2; have hM := MM_thr hM e2
          refine e_if_eq (tgt := 49) dX9_meanBehind_42 (by decide) b2_in (fun c42 => ?_) (fun c42 => ?_)
          · skip
            try simp only [b2_0, b2_n0] at c42
            exfalso; omega
          · skip
            try simp only [b2_0, b2_n0] at c42
            refine e_dconst0 dX9_meanBehind_45 ?_
            refine e_goto (tgt := 57) dX9_meanBehind_46 (by decide) ?_
            refine e_dret dX9_meanBehind_57 rfl (by decide) (by decide) ?_
            first | exact QM_no (ht.trans (b2_t (by omega))) (by first | (rw [if_pos (by omega)]; done) | (rw [if_neg (by omega), if_pos (by omega)]; done) | (rw [if_neg (by omega), if_neg (by omega), if_pos (by omega)]; done) | (rw [if_neg (by omega), if_neg (by omega), if_neg (by omega), if_pos (by omega)]; done)) (by decide) hM | exact QM_no ht (by first | (rw [if_pos (by omega)]; done) | (rw [if_neg (by omega), if_pos (by omega)]; done) | (rw [if_neg (by omega), if_neg (by omega), if_pos (by omega)]; done) | (rw [if_neg (by omega), if_neg (by omega), if_neg (by omega), if_pos (by omega)]; done)) (by decide) hM | exact QM_ok (ht.trans (b2_f (by omega))) (by first | (rw [if_neg (by omega)]; done) | (rw [if_neg (by omega), if_neg (by omega)]; done) | (rw [if_neg (by omega), if_neg (by omega), if_neg (by omega)]; done) | (rw [if_neg (by omega), if_neg (by omega), if_neg (by omega), if_neg (by omega)]; done)) rfl hM | exact QM_ok ht (by first | (rw [if_neg (by omega)]; done) | (rw [if_neg (by omega), if_neg (by omega)]; done) | (rw [if_neg (by omega), if_neg (by omega), if_neg (by omega)]; done) | (rw [if_neg (by omega), if_neg (by omega), if_neg (by omega), if_neg (by omega)]; done)) rfl hM
      · skip
        refine e_iload_n dX9_meanBehind_12 rfl rfl ?_
        refine e_aload_n dX9_meanBehind_13 rfl rfl ?_
        refine e_iload_n dX9_meanBehind_14 rfl rfl ?_
        refine e_callV (As := [zI _]) (cb := 10) dX9_meanBehind_15 moX9_countBehind mvX9_countBehind mlX9_186 (by decide) rfl hM.1.1 rfl (Nat.le_of_ble_eq_true rfl) ⟨by decide, by decide, by decide, by decide⟩ (c_X9_countBehind hl hM.1 hN hI hO hC hK _ (by omega) (by omega)) (fun E h1 q => by cases q.1) (fun v h9 q => ?_)
        obtain ⟨e1, e2⟩ := q; cases e1; rw [e2]; clear e2 h9
        refine e_iadd dX9_meanBehind_18 ?_
        refine e_istore_n dX9_meanBehind_19 rfl (by decide) rfl rfl ?_
        refine e_iinc dX9_meanBehind_20 (by decide) rfl rfl rfl rfl ?_
        refine e_goto (tgt := 4) dX9_meanBehind_23 (by decide) ?_
        exact ih _ _ (by omega) (by omega) (by omega) (by rw [sumB_s S i0, hv])
  exact lp4 7 0 0 (by omega) (by omega) (by omega) rfl
