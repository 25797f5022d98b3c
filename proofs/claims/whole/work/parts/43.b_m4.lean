set_option maxHeartbeats 4000000 in
set_option maxRecDepth 100000 in
theorem c_X9_isClient {l : Launch} (hl : l.stackTraces = false) {S : S9} {h : zH} (hM : RM S h) (hN : IN S) (c : Int) (hc : zin c) : zC l MX9_isClient [zR (some 99), zI c] h (fun o h' => o = .inl (some (zI (b2 (isC S c)))) ∧ h' = h) := by
  refine zC_of hl rfl rfl (by decide) rfl rfl (Nat.le_of_ble_eq_true rfl) ?_
  have hM : MM S h h := MM_rf hM
  have hN2 := hN
  obtain ⟨n1, n2, n3, n4, n5⟩ := hN2
  refine e_iload_n dX9_isClient_0 rfl rfl ?_
  refine e_iconst dX9_isClient_1 ?_
  refine e_aload_n dX9_isClient_2 rfl rfl ?_
  refine m_get 2 dX9_isClient_3 flX9_174 rfl hM (by unfold mS; omega) rfl (fun r3 => ?_)
  refine e_iconst dX9_isClient_6 ?_
  refine e_isub dX9_isClient_7 ?_
  refine e_callS (As := [zI _, zI _, zI _]) dX9_isClient_8 moX9_in msX9_in mlX9_139 rfl (Nat.le_of_ble_eq_true rfl) ⟨by decide, by decide, by decide, by decide⟩ (c_X9_in hl _ _ _ (by omega) (by omega) (by omega)) (fun E h1 q => by cases q.1) (fun v h9 q => ?_)
  obtain ⟨e1, e2⟩ := q; cases e1; rw [e2]; clear e2 h9
  refine e_iret dX9_isClient_11 rfl (by first | exact Or.inl rfl | exact Or.inr rfl | assumption | exact b2_01) (by decide) (by decide) ?_
  exact ⟨zqe (by unfold b2; congr 1; exact propext (by omega)), rfl⟩
set_option maxHeartbeats 4000000 in
set_option maxRecDepth 100000 in
theorem c_X9_failsClient {l : Launch} (hl : l.stackTraces = false) {S : S9} {h : zH} (hM : RM S h) (hN : IN S) (c : Int) (hc : zin c) : zC l MX9_failsClient [zR (some 99), zI c] h (fun o h' => o = .inl (some (zI (b2 (¬ isC S c)))) ∧ h' = sf h 1000 99 (b2 (¬ isC S c))) := by
  refine zC_of hl rfl rfl (by decide) rfl rfl (Nat.le_of_ble_eq_true rfl) ?_
  have hM : MM S h h := MM_rf hM
  refine e_aload_n dX9_failsClient_0 rfl rfl ?_
  refine e_aload_n dX9_failsClient_1 rfl rfl ?_
  refine e_iload_n dX9_failsClient_2 rfl rfl ?_
  refine e_callV (As := [zI _]) (cb := 10) dX9_failsClient_3 moX9_isClient mvX9_isClient mlX9_177 (by decide) rfl hM.1.1 rfl (Nat.le_of_ble_eq_true rfl) ⟨by decide, by decide, by decide, by decide⟩ (c_X9_isClient hl hM.1 hN _ hc) (fun E h1 q => by cases q.1) (fun v h9 q => ?_)
  obtain ⟨e1, e2⟩ := q; cases e1; rw [e2]; clear e2 h9
  refine e_if_eq (tgt := 13) dX9_failsClient_6 (by decide) b2_in (fun c6 => ?_) (fun c6 => ?_)
  · skip
    try simp only [b2_0, b2_n0] at c6
    refine e_iconst dX9_failsClient_13 ?_
    refine e_callV (As := [zI _]) (cb := 10) dX9_failsClient_14 moX9_fails mvX9_fails mlX9_135 (by decide) rfl hM.1.1 rfl (Nat.le_of_ble_eq_true rfl) ⟨by decide, by decide, by decide, by decide⟩ (c_X9_fails hl hM.1 _ (by first | omega | exact b2_in)) (fun E h1 q => by cases q.1) (fun v h1 q => ?_)
    obtain ⟨e1, e2⟩ := q; cases e1; have ht := thr e2; have hM := MM_thr hM e2
    refine e_iret dX9_failsClient_17 rfl (by first | exact Or.inl rfl | exact Or.inr rfl | assumption | exact b2_01) (by decide) (by decide) ?_
    first | exact ⟨zqe (by rw [b2_t (p := ¬ isC S c) (by omega)]; rfl), by rw [b2_t (p := ¬ isC S c) (by omega)]; exact e2⟩ | exact ⟨zqe (by rw [b2_f (p := ¬ isC S c) (by omega)]; rfl), by rw [b2_f (p := ¬ isC S c) (by omega)]; exact e2⟩
  · skip
    try simp only [b2_0, b2_n0] at c6
    refine e_iconst dX9_failsClient_9 ?_
    refine e_goto (tgt := 14) dX9_failsClient_10 (by decide) ?_
    refine e_callV (As := [zI _]) (cb := 10) dX9_failsClient_14 moX9_fails mvX9_fails mlX9_135 (by decide) rfl hM.1.1 rfl (Nat.le_of_ble_eq_true rfl) ⟨by decide, by decide, by decide, by decide⟩ (c_X9_fails hl hM.1 _ (by first | omega | exact b2_in)) (fun E h1 q => by cases q.1) (fun v h1 q => ?_)
    obtain ⟨e1, e2⟩ := q; cases e1; have ht := thr e2; have hM := MM_thr hM e2
    refine e_iret dX9_failsClient_17 rfl (by first | exact Or.inl rfl | exact Or.inr rfl | assumption | exact b2_01) (by decide) (by decide) ?_
    first | exact ⟨zqe (by rw [b2_t (p := ¬ isC S c) (by omega)]; rfl), by rw [b2_t (p := ¬ isC S c) (by omega)]; exact e2⟩ | exact ⟨zqe (by rw [b2_f (p := ¬ isC S c) (by omega)]; rfl), by rw [b2_f (p := ¬ isC S c) (by omega)]; exact e2⟩
set_option maxHeartbeats 4000000 in
set_option maxRecDepth 100000 in
theorem c_X9_join {l : Launch} (hl : l.stackTraces = false) {S : S9} {h : zH} (hM : RM S h) (hN : IN S) (s b : Int) (hs : zin s) (hb : zin b) : zC l MX9_join [zR (some 99), zI s, zI b] h (QM S h (if ¬ isS S s then 1 else if ¬ (0 ≤ b ∧ b ≤ 9) then 2 else if S 2 0 = 6 then 3 else 0) (zI 0) (zI (S 2 0)) (joinS S s b)) := by
  refine zC_of hl rfl rfl (by decide) rfl rfl (Nat.le_of_ble_eq_true rfl) ?_
  have hM : MM S h h := MM_rf hM
  have hN2 := hN
  obtain ⟨n1, n2, n3, n4, n5⟩ := hN2
  refine e_aload_n dX9_join_0 rfl rfl ?_
  refine e_iload_n dX9_join_1 rfl rfl ?_
  refine e_callV (As := [zI _]) (cb := 10) dX9_join_2 moX9_failsSession mvX9_failsSession mlX9_146 (by decide) rfl hM.1.1 rfl (Nat.le_of_ble_eq_true rfl) ⟨by decide, by decide, by decide, by decide⟩ (c_X9_failsSession hl hM.1 hN _ hs) (fun E h1 q => by cases q.1) (fun v h1 q => ?_)
  obtain ⟨e1, e2⟩ := q; cases e1; have ht := thr e2; have hM := MM_thr hM e2
  refine e_if_ne (tgt := 43) dX9_join_5 (by decide) b2_in (fun c5 => ?_) (fun c5 => ?_)
  · skip
    try simp only [b2_0, b2_n0] at c5
    refine e_iconst dX9_join_43 ?_
    refine e_iret dX9_join_44 rfl trivial (by decide) (by decide) ?_
    first | exact QM_no (ht.trans (b2_t (by omega))) (by first | (rw [if_pos (by omega)]; done) | (rw [if_neg (by omega), if_pos (by omega)]; done) | (rw [if_neg (by omega), if_neg (by omega), if_pos (by omega)]; done) | (rw [if_neg (by omega), if_neg (by omega), if_neg (by omega), if_pos (by omega)]; done)) (by decide) hM | exact QM_no ht (by first | (rw [if_pos (by omega)]; done) | (rw [if_neg (by omega), if_pos (by omega)]; done) | (rw [if_neg (by omega), if_neg (by omega), if_pos (by omega)]; done) | (rw [if_neg (by omega), if_neg (by omega), if_neg (by omega), if_pos (by omega)]; done)) (by decide) hM
  · skip
    try simp only [b2_0, b2_n0] at c5
    refine e_aload_n dX9_join_8 rfl rfl ?_
    refine e_iload_n dX9_join_9 rfl rfl ?_
    refine e_iconst dX9_join_10 ?_
    refine e_bipush dX9_join_11 (by decide) ?_
    refine e_callS (As := [zI _, zI _, zI _]) dX9_join_13 moX9_in msX9_in mlX9_139 rfl (Nat.le_of_ble_eq_true rfl) ⟨by decide, by decide, by decide, by decide⟩ (c_X9_in hl _ _ _ (by omega) (by omega) (by omega)) (fun E h1 q => by cases q.1) (fun v h9 q => ?_)
    obtain ⟨e1, e2⟩ := q; cases e1; rw [e2]; clear e2 h9
    refine e_if_ne (tgt := 23) dX9_join_16 (by decide) b2_in (fun c16 => ?_) (fun c16 => ?_)
    · skip
      try simp only [b2_0, b2_n0] at c16
      refine e_aload_n dX9_join_23 rfl rfl ?_
      refine m_get 2 dX9_join_24 flX9_174 rfl hM (by unfold mS; omega) (by (try simp (disch := omega) only [up_f, up_i, up_eq, tkO_16, tkO_f]); rfl) (fun r24 => ?_)
      refine e_bipush dX9_join_27 (by decide) ?_
      refine e_icmp_ne (tgt := 36) dX9_join_29 (by decide) (by omega) (by omega) (fun c29 => ?_) (fun c29 => ?_)
      · skip
        refine e_iconst dX9_join_36 ?_
        refine e_callV (As := [zI _]) (cb := 10) dX9_join_37 moX9_fails mvX9_fails mlX9_135 (by decide) rfl hM.1.1 rfl (Nat.le_of_ble_eq_true rfl) ⟨by decide, by decide, by decide, by decide⟩ (c_X9_fails hl hM.1 _ (by first | omega | exact b2_in)) (fun E h1 q => by cases q.1) (fun v h1 q => ?_)
        obtain ⟨e1, e2⟩ := q; cases e1; have ht := thr e2; have hM := MM_thr hM e2
        refine e_if_eq (tgt := 45) dX9_join_40 (by decide) b2_in (fun c40 => ?_) (fun c40 => ?_)
        · skip
          try simp only [b2_0, b2_n0] at c40
          refine e_aload_n dX9_join_45 rfl rfl ?_
          refine m_arr 35 dX9_join_46 flX9_104 rfl hM (by decide) ?_
          refine e_aload_n dX9_join_49 rfl rfl ?_
          refine m_get 2 dX9_join_50 flX9_174 rfl hM (by unfold mS; omega) (by (try simp (disch := omega) only [up_f, up_i, up_eq, tkO_16, tkO_f]); rfl) (fun r50 => ?_)
          refine e_iload_n dX9_join_53 rfl rfl ?_
          refine m_st dX9_join_54 hM (by decide) rfl (by omega) (by simp only [mL]; omega) (by omega) (fun hM => ?_)
          refine e_aload_n dX9_join_55 rfl rfl ?_
          refine m_arr 36 dX9_join_56 flX9_107 rfl hM (by decide) ?_
          refine e_aload_n dX9_join_59 rfl rfl ?_
          refine m_get 2 dX9_join_60 flX9_174 rfl hM (by unfold mS; omega) (by (try simp (disch := omega) only [up_f, up_i, up_eq, tkO_16, tkO_f]); rfl) (fun r60 => ?_)
          refine e_iload_n dX9_join_63 rfl rfl ?_
          refine m_st dX9_join_64 hM (by decide) rfl (by omega) (by simp only [mL]; omega) (by omega) (fun hM => ?_)
          refine e_aload_n dX9_join_65 rfl rfl ?_
          refine e_dup dX9_join_66 rfl ?_
          refine m_get 2 dX9_join_67 flX9_174 rfl hM (by unfold mS; omega) (by (try simp (disch := omega) only [up_f, up_i, up_eq, tkO_16, tkO_f]); rfl) (fun r67 => ?_)
          refine e_iconst dX9_join_70 ?_
          refine e_iadd dX9_join_71 ?_
          refine m_put 2 dX9_join_72 flX9_174 (Or.inl rfl) trivial hM (by unfold mS; omega) (by omega) (fun hM => ?_)
          refine e_aload_n dX9_join_75 rfl rfl ?_
          refine m_get 2 dX9_join_76 flX9_174 rfl hM (by unfold mS; omega) (by (try simp (disch := omega) only [up_f, up_i, up_eq, tkO_16, tkO_f]); rfl) (fun r76 => ?_)
          refine e_iconst dX9_join_79 ?_
          refine e_isub dX9_join_80 ?_
          refine e_iret dX9_join_81 rfl trivial (by decide) (by decide) ?_
          exact QM_ok ht (by first | (rw [if_neg (by omega)]; done) | (rw [if_neg (by omega), if_neg (by omega)]; done) | (rw [if_neg (by omega), if_neg (by omega), if_neg (by omega)]; done) | (rw [if_neg (by omega), if_neg (by omega), if_neg (by omega), if_neg (by omega)]; done)) (by congr 1; omega) hM
        · skip
          try simp only [b2_0, b2_n0] at c40
          exfalso; omega
      · skip
        refine e_iconst dX9_join_32 ?_
        refine e_goto (tgt := 37) dX9_join_33 (by decide) ?_
        refine e_callV (As := [zI _]) (cb := 10) dX9_join_37 moX9_fails mvX9_fails mlX9_135 (by decide) rfl hM.1.1 rfl (Nat.le_of_ble_eq_true rfl) ⟨by decide, by decide, by decide, by decide⟩ (c_X9_fails hl hM.1 _ (by first | omega | exact b2_in)) (fun E h1 q => by cases q.1) (fun v h1 q => ?_)
        obtain ⟨e1, e2⟩ := q; cases e1; have ht := thr e2; have hM := MM_thr hM e2
        refine e_if_eq (tgt := 45) dX9_join_40 (by decide) b2_in (fun c40 => ?_) (fun c40 => ?_)
        · skip
          try simp only [b2_0, b2_n0] at c40
          exfalso; omega
        · skip
          try simp only [b2_0, b2_n0] at c40
          refine e_iconst dX9_join_43 ?_
          refine e_iret dX9_join_44 rfl trivial (by decide) (by decide) ?_
          first | exact QM_no (ht.trans (b2_t (by omega))) (by first | (rw [if_pos (by omega)]; done) | (rw [if_neg (by omega), if_pos (by omega)]; done) | (rw [if_neg (by omega), if_neg (by omega), if_pos (by omega)]; done) | (rw [if_neg (by omega), if_neg (by omega), if_neg (by omega), if_pos (by omega)]; done)) (by decide) hM | exact QM_no ht (by first | (rw [if_pos (by omega)]; done) | (rw [if_neg (by omega), if_pos (by omega)]; done) | (rw [if_neg (by omega), if_neg (by omega), if_pos (by omega)]; done) | (rw [if_neg (by omega), if_neg (by omega), if_neg (by omega), if_pos (by omega)]; done)) (by decide) hM
    · skip
      try simp only [b2_0, b2_n0] at c16
      refine e_iconst dX9_join_19 ?_
      refine e_goto (tgt := 37) dX9_join_20 (by decide) ?_
      refine e_callV (As := [zI _]) (cb := 10) dX9_join_37 moX9_fails mvX9_fails mlX9_135 (by decide) rfl hM.1.1 rfl (Nat.le_of_ble_eq_true rfl) ⟨by decide, by decide, by decide, by decide⟩ (c_X9_fails hl hM.1 _ (by first | omega | exact b2_in)) (fun E h1 q => by cases q.1) (fun v h1 q => ?_)
      obtain ⟨e1, e2⟩ := q; cases e1; have ht := thr e2; have hM := MM_thr hM e2
      refine e_if_eq (tgt := 45) dX9_join_40 (by decide) b2_in (fun c40 => ?_) (fun c40 => ?_)
      · skip
        try simp only [b2_0, b2_n0] at c40
        exfalso; omega
      · skip
        try simp only [b2_0, b2_n0] at c40
        refine e_iconst dX9_join_43 ?_
        refine e_iret dX9_join_44 rfl trivial (by decide) (by decide) ?_
        first | exact QM_no (ht.trans (b2_t (by omega))) (by first | (rw [if_pos (by omega)]; done) | (rw [if_neg (by omega), if_pos (by omega)]; done) | (rw [if_neg (by omega), if_neg (by omega), if_pos (by omega)]; done) | (rw [if_neg (by omega), if_neg (by omega), if_neg (by omega), if_pos (by omega)]; done)) (by decide) hM | exact QM_no ht (by first | (rw [if_pos (by omega)]; done) | (rw [if_neg (by omega), if_pos (by omega)]; done) | (rw [if_neg (by omega), if_neg (by omega), if_pos (by omega)]; done) | (rw [if_neg (by omega), if_neg (by omega), if_neg (by omega), if_pos (by omega)]; done)) (by decide) hM
set_option maxHeartbeats 4000000 in
set_option maxRecDepth 100000 in
theorem c_X9_bid {l : Launch} (hl : l.stackTraces = false) {S : S9} {h : zH} (hM : RM S h) (hN : IN S) (c : Int) (hc : zin c) (b : Int) (hb : zin b) : zC l MX9_bid [zR (some 99), zI c, zI b] h (QM S h (if ¬ isC S c then 1 else if ¬ (0 ≤ b ∧ b ≤ 9) then 2 else 0) (zI 0) (zI (S 36 c)) (up S 36 c b)) := by
  refine zC_of hl rfl rfl (by decide) rfl rfl (Nat.le_of_ble_eq_true rfl) ?_
  have hM : MM S h h := MM_rf hM
  have hN2 := hN
  obtain ⟨n1, n2, n3, n4, n5⟩ := hN2
  refine e_aload_n dX9_bid_0 rfl rfl ?_
  refine e_iload_n dX9_bid_1 rfl rfl ?_
  refine e_callV (As := [zI _]) (cb := 10) dX9_bid_2 moX9_failsClient mvX9_failsClient mlX9_180 (by decide) rfl hM.1.1 rfl (Nat.le_of_ble_eq_true rfl) ⟨by decide, by decide, by decide, by decide⟩ (c_X9_failsClient hl hM.1 hN _ hc) (fun E h1 q => by cases q.1) (fun v h1 q => ?_)
  obtain ⟨e1, e2⟩ := q; cases e1; have ht := thr e2; have hM := MM_thr hM e2
  refine e_if_ne (tgt := 30) dX9_bid_5 (by decide) b2_in (fun c5 => ?_) (fun c5 => ?_)
  · skip
    try simp only [b2_0, b2_n0] at c5
    refine e_iconst dX9_bid_30 ?_
    refine e_iret dX9_bid_31 rfl trivial (by decide) (by decide) ?_
    first | exact QM_no (ht.trans (b2_t (by omega))) (by first | (rw [if_pos (by omega)]; done) | (rw [if_neg (by omega), if_pos (by omega)]; done) | (rw [if_neg (by omega), if_neg (by omega), if_pos (by omega)]; done) | (rw [if_neg (by omega), if_neg (by omega), if_neg (by omega), if_pos (by omega)]; done)) (by decide) hM | exact QM_no ht (by first | (rw [if_pos (by omega)]; done) | (rw [if_neg (by omega), if_pos (by omega)]; done) | (rw [if_neg (by omega), if_neg (by omega), if_pos (by omega)]; done) | (rw [if_neg (by omega), if_neg (by omega), if_neg (by omega), if_pos (by omega)]; done)) (by decide) hM
  · skip
    try simp only [b2_0, b2_n0] at c5
    refine e_aload_n dX9_bid_8 rfl rfl ?_
    refine e_iload_n dX9_bid_9 rfl rfl ?_
    refine e_iconst dX9_bid_10 ?_
    refine e_bipush dX9_bid_11 (by decide) ?_
    refine e_callS (As := [zI _, zI _, zI _]) dX9_bid_13 moX9_in msX9_in mlX9_139 rfl (Nat.le_of_ble_eq_true rfl) ⟨by decide, by decide, by decide, by decide⟩ (c_X9_in hl _ _ _ (by omega) (by omega) (by omega)) (fun E h1 q => by cases q.1) (fun v h9 q => ?_)
    obtain ⟨e1, e2⟩ := q; cases e1; rw [e2]; clear e2 h9
    refine e_if_eq (tgt := 23) dX9_bid_16 (by decide) b2_in (fun c16 => ?_) (fun c16 => ?_)
    · skip
      try simp only [b2_0, b2_n0] at c16
      refine e_iconst dX9_bid_23 ?_
      refine e_callV (As := [zI _]) (cb := 10) dX9_bid_24 moX9_fails mvX9_fails mlX9_135 (by decide) rfl hM.1.1 rfl (Nat.le_of_ble_eq_true rfl) ⟨by decide, by decide, by decide, by decide⟩ (c_X9_fails hl hM.1 _ (by first | omega | exact b2_in)) (fun E h1 q => by cases q.1) (fun v h1 q => ?_)
      obtain ⟨e1, e2⟩ := q; cases e1; have ht := thr e2; have hM := MM_thr hM e2
      refine e_if_eq (tgt := 32) dX9_bid_27 (by decide) b2_in (fun c27 => ?_) (fun c27 => ?_)
      · skip
        try simp only [b2_0, b2_n0] at c27
        exfalso; omega
      · skip
        try simp only [b2_0, b2_n0] at c27
        refine e_iconst dX9_bid_30 ?_
        refine e_iret dX9_bid_31 rfl trivial (by decide) (by decide) ?_
        first | exact QM_no (ht.trans (b2_t (by omega))) (by first | (rw [if_pos (by omega)]; done) | (rw [if_neg (by omega), if_pos (by omega)]; done) | (rw [if_neg (by omega), if_neg (by omega), if_pos (by omega)]; done) | (rw [if_neg (by omega), if_neg (by omega), if_neg (by omega), if_pos (by omega)]; done)) (by decide) hM | exact QM_no ht (by first | (rw [if_pos (by omega)]; done) | (rw [if_neg (by omega), if_pos (by omega)]; done) | (rw [if_neg (by omega), if_neg (by omega), if_pos (by omega)]; done) | (rw [if_neg (by omega), if_neg (by omega), if_neg (by omega), if_pos (by omega)]; done)) (by decide) hM
    · skip
      try simp only [b2_0, b2_n0] at c16
      refine e_iconst dX9_bid_19 ?_
      refine e_goto (tgt := 24) dX9_bid_20 (by decide) ?_
      refine e_callV (As := [zI _]) (cb := 10) dX9_bid_24 moX9_fails mvX9_fails mlX9_135 (by decide) rfl hM.1.1 rfl (Nat.le_of_ble_eq_true rfl) ⟨by decide, by decide, by decide, by decide⟩ (c_X9_fails hl hM.1 _ (by first | omega | exact b2_in)) (fun E h1 q => by cases q.1) (fun v h1 q => ?_)
      obtain ⟨e1, e2⟩ := q; cases e1; have ht := thr e2; have hM := MM_thr hM e2
      refine e_if_eq (tgt := 32) dX9_bid_27 (by decide) b2_in (fun c27 => ?_) (fun c27 => ?_)
      · skip
        try simp only [b2_0, b2_n0] at c27
        refine e_aload_n dX9_bid_32 rfl rfl ?_
        refine m_arr 36 dX9_bid_33 flX9_107 rfl hM (by decide) ?_
        refine e_iload_n dX9_bid_36 rfl rfl ?_
        refine m_ld dX9_bid_37 hM (by decide) rfl (by omega) (by simp only [mL]; omega) rfl (fun r37 => ?_)
        refine e_istore_n dX9_bid_38 rfl (by decide) rfl rfl ?_
        refine e_aload_n dX9_bid_39 rfl rfl ?_
        refine m_arr 36 dX9_bid_40 flX9_107 rfl hM (by decide) ?_
        refine e_iload_n dX9_bid_43 rfl rfl ?_
        refine e_iload_n dX9_bid_44 rfl rfl ?_
        refine m_st dX9_bid_45 hM (by decide) rfl (by omega) (by simp only [mL]; omega) (by omega) (fun hM => ?_)
        refine e_iload_n dX9_bid_46 rfl rfl ?_
        refine e_iret dX9_bid_47 rfl trivial (by decide) (by decide) ?_
        exact QM_ok ht (by first | (rw [if_neg (by omega)]; done) | (rw [if_neg (by omega), if_neg (by omega)]; done) | (rw [if_neg (by omega), if_neg (by omega), if_neg (by omega)]; done) | (rw [if_neg (by omega), if_neg (by omega), if_neg (by omega), if_neg (by omega)]; done)) rfl hM
      · skip
        try simp only [b2_0, b2_n0] at c27
        exfalso; omega
set_option maxHeartbeats 4000000 in
set_option maxRecDepth 100000 in
theorem c_X9_money {l : Launch} (hl : l.stackTraces = false) {S : S9} {h : zH} (hM : RM S h) (hN : IN S) (c : Int) (hc : zin c)  : zC l MX9_money [zR (some 99), zI c] h (QM S h (if ¬ isC S c then 1 else 0) (zI 0) (zI (S 37 c)) S) := by
  refine zC_of hl rfl rfl (by decide) rfl rfl (Nat.le_of_ble_eq_true rfl) ?_
  have hM : MM S h h := MM_rf hM
  have hN2 := hN
  obtain ⟨n1, n2, n3, n4, n5⟩ := hN2
  refine e_aload_n dX9_money_0 rfl rfl ?_
  refine e_iload_n dX9_money_1 rfl rfl ?_
  refine e_callV (As := [zI _]) (cb := 10) dX9_money_2 moX9_failsClient mvX9_failsClient mlX9_180 (by decide) rfl hM.1.1 rfl (Nat.le_of_ble_eq_true rfl) ⟨by decide, by decide, by decide, by decide⟩ (c_X9_failsClient hl hM.1 hN _ hc) (fun E h1 q => by cases q.1) (fun v h1 q => ?_)
  obtain ⟨e1, e2⟩ := q; cases e1; have ht := thr e2; have hM := MM_thr hM e2
  refine e_if_eq (tgt := 12) dX9_money_5 (by decide) b2_in (fun c5 => ?_) (fun c5 => ?_)
  · skip
    try simp only [b2_0, b2_n0] at c5
    refine e_aload_n dX9_money_12 rfl rfl ?_
    refine m_arr 37 dX9_money_13 flX9_110 rfl hM (by decide) ?_
    refine e_iload_n dX9_money_16 rfl rfl ?_
    refine m_ld dX9_money_17 hM (by decide) rfl (by omega) (by simp only [mL]; omega) rfl (fun r17 => ?_)
    refine e_iret dX9_money_18 rfl trivial (by decide) (by decide) ?_
    first | exact QM_no (ht.trans (b2_t (by omega))) (by first | (rw [if_pos (by omega)]; done) | (rw [if_neg (by omega), if_pos (by omega)]; done) | (rw [if_neg (by omega), if_neg (by omega), if_pos (by omega)]; done) | (rw [if_neg (by omega), if_neg (by omega), if_neg (by omega), if_pos (by omega)]; done)) (by decide) hM | exact QM_no ht (by first | (rw [if_pos (by omega)]; done) | (rw [if_neg (by omega), if_pos (by omega)]; done) | (rw [if_neg (by omega), if_neg (by omega), if_pos (by omega)]; done) | (rw [if_neg (by omega), if_neg (by omega), if_neg (by omega), if_pos (by omega)]; done)) (by decide) hM | exact QM_ok (ht.trans (b2_f (by omega))) (by first | (rw [if_neg (by omega)]; done) | (rw [if_neg (by omega), if_neg (by omega)]; done) | (rw [if_neg (by omega), if_neg (by omega), if_neg (by omega)]; done) | (rw [if_neg (by omega), if_neg (by omega), if_neg (by omega), if_neg (by omega)]; done)) rfl hM | exact QM_ok ht (by first | (rw [if_neg (by omega)]; done) | (rw [if_neg (by omega), if_neg (by omega)]; done) | (rw [if_neg (by omega), if_neg (by omega), if_neg (by omega)]; done) | (rw [if_neg (by omega), if_neg (by omega), if_neg (by omega), if_neg (by omega)]; done)) rfl hM
  · skip
    try simp only [b2_0, b2_n0] at c5
    refine e_iconst dX9_money_8 ?_
    refine e_goto (tgt := 18) dX9_money_9 (by decide) ?_
    refine e_iret dX9_money_18 rfl trivial (by decide) (by decide) ?_
    first | exact QM_no (ht.trans (b2_t (by omega))) (by first | (rw [if_pos (by omega)]; done) | (rw [if_neg (by omega), if_pos (by omega)]; done) | (rw [if_neg (by omega), if_neg (by omega), if_pos (by omega)]; done) | (rw [if_neg (by omega), if_neg (by omega), if_neg (by omega), if_pos (by omega)]; done)) (by decide) hM | exact QM_no ht (by first | (rw [if_pos (by omega)]; done) | (rw [if_neg (by omega), if_pos (by omega)]; done) | (rw [if_neg (by omega), if_neg (by omega), if_pos (by omega)]; done) | (rw [if_neg (by omega), if_neg (by omega), if_neg (by omega), if_pos (by omega)]; done)) (by decide) hM | exact QM_ok (ht.trans (b2_f (by omega))) (by first | (rw [if_neg (by omega)]; done) | (rw [if_neg (by omega), if_neg (by omega)]; done) | (rw [if_neg (by omega), if_neg (by omega), if_neg (by omega)]; done) | (rw [if_neg (by omega), if_neg (by omega), if_neg (by omega), if_neg (by omega)]; done)) rfl hM | exact QM_ok ht (by first | (rw [if_neg (by omega)]; done) | (rw [if_neg (by omega), if_neg (by omega)]; done) | (rw [if_neg (by omega), if_neg (by omega), if_neg (by omega)]; done) | (rw [if_neg (by omega), if_neg (by omega), if_neg (by omega), if_neg (by omega)]; done)) rfl hM
set_option maxHeartbeats 4000000 in
set_option maxRecDepth 100000 in
theorem c_X9_picture {l : Launch} (hl : l.stackTraces = false) {S : S9} {h : zH} (hM : RM S h) (hN : IN S) (c : Int) (hc : zin c) (x y : Int) (hx : zin x) (hy : zin y) : zC l MX9_picture [zR (some 99), zI c, zI x, zI y] h (QM S h (if ¬ (isC S c ∧ isXY x y) then 1 else 0) (zI 0) (zI (S 40 (96 * c + (y * 12 + x)))) S) := by
  refine zC_of hl rfl rfl (by decide) rfl rfl (Nat.le_of_ble_eq_true rfl) ?_
  have hM : MM S h h := MM_rf hM
  have hN2 := hN
  obtain ⟨n1, n2, n3, n4, n5⟩ := hN2
  refine e_aload_n dX9_picture_0 rfl rfl ?_
  refine e_aload_n dX9_picture_1 rfl rfl ?_
  refine e_iload_n dX9_picture_2 rfl rfl ?_
  refine e_callV (As := [zI _]) (cb := 10) dX9_picture_3 moX9_isClient mvX9_isClient mlX9_177 (by decide) rfl hM.1.1 rfl (Nat.le_of_ble_eq_true rfl) ⟨by decide, by decide, by decide, by decide⟩ (c_X9_isClient hl hM.1 hN _ hc) (fun E h1 q => by cases q.1) (fun v h9 q => ?_)
  obtain ⟨e1, e2⟩ := q; cases e1; rw [e2]; clear e2 h9
  refine e_if_eq (tgt := 21) dX9_picture_6 (by decide) b2_in (fun c6 => ?_) (fun c6 => ?_)
  · skip
    try simp only [b2_0, b2_n0] at c6
    refine e_iconst dX9_picture_21 ?_
    refine e_callV (As := [zI _]) (cb := 10) dX9_picture_22 moX9_fails mvX9_fails mlX9_135 (by decide) rfl hM.1.1 rfl (Nat.le_of_ble_eq_true rfl) ⟨by decide, by decide, by decide, by decide⟩ (c_X9_fails hl hM.1 _ (by first | omega | exact b2_in)) (fun E h1 q => by cases q.1) (fun v h1 q => ?_)
    obtain ⟨e1, e2⟩ := q; cases e1; have ht := thr e2; have hM := MM_thr hM e2
    refine e_if_eq (tgt := 32) dX9_picture_25 (by decide) b2_in (fun c25 => ?_) (fun c25 => ?_)
    · skip
      try simp only [b2_0, b2_n0] at c25
      exfalso; omega
    · skip
      try simp only [b2_0, b2_n0] at c25
      refine e_iconst dX9_picture_28 ?_
      refine e_goto (tgt := 48) dX9_picture_29 (by decide) ?_
      refine e_iret dX9_picture_48 rfl trivial (by decide) (by decide) ?_
      first | exact QM_no ht (by first | (rw [if_pos (by omega)]; done) | (rw [if_neg (by omega), if_pos (by omega)]; done) | (rw [if_neg (by omega), if_neg (by omega), if_pos (by omega)]; done) | (rw [if_neg (by omega), if_neg (by omega), if_neg (by omega), if_pos (by omega)]; done)) (by decide) hM | exact QM_ok ht (by first | (rw [if_neg (by omega)]; done) | (rw [if_neg (by omega), if_neg (by omega)]; done) | (rw [if_neg (by omega), if_neg (by omega), if_neg (by omega)]; done) | (rw [if_neg (by omega), if_neg (by omega), if_neg (by omega), if_neg (by omega)]; done)) (by congr 2; omega) hM
  · skip
    try simp only [b2_0, b2_n0] at c6
    refine e_iload_n dX9_picture_9 rfl rfl ?_
    refine e_iload_n dX9_picture_10 rfl rfl ?_
    refine e_callS (As := [zI _, zI _]) dX9_picture_11 moX9_isCell msX9_isCell mlX9_171 rfl (Nat.le_of_ble_eq_true rfl) ⟨by decide, by decide, by decide, by decide⟩ (c_X9_isCell hl _ _ hx hy) (fun E h1 q => by cases q.1) (fun v h9 q => ?_)
    obtain ⟨e1, e2⟩ := q; cases e1; rw [e2]; clear e2 h9
    refine e_if_eq (tgt := 21) dX9_picture_14 (by decide) b2_in (fun c14 => ?_) (fun c14 => ?_)
    · skip
      try simp only [b2_0, b2_n0] at c14
      refine e_iconst dX9_picture_21 ?_
      refine e_callV (As := [zI _]) (cb := 10) dX9_picture_22 moX9_fails mvX9_fails mlX9_135 (by decide) rfl hM.1.1 rfl (Nat.le_of_ble_eq_true rfl) ⟨by decide, by decide, by decide, by decide⟩ (c_X9_fails hl hM.1 _ (by first | omega | exact b2_in)) (fun E h1 q => by cases q.1) (fun v h1 q => ?_)
      obtain ⟨e1, e2⟩ := q; cases e1; have ht := thr e2; have hM := MM_thr hM e2
      refine e_if_eq (tgt := 32) dX9_picture_25 (by decide) b2_in (fun c25 => ?_) (fun c25 => ?_)
      · skip
        try simp only [b2_0, b2_n0] at c25
        exfalso; omega
      · skip
        try simp only [b2_0, b2_n0] at c25
        refine e_iconst dX9_picture_28 ?_
        refine e_goto (tgt := 48) dX9_picture_29 (by decide) ?_
        refine e_iret dX9_picture_48 rfl trivial (by decide) (by decide) ?_
        first | exact QM_no ht (by first | (rw [if_pos (by omega)]; done) | (rw [if_neg (by omega), if_pos (by omega)]; done) | (rw [if_neg (by omega), if_neg (by omega), if_pos (by omega)]; done) | (rw [if_neg (by omega), if_neg (by omega), if_neg (by omega), if_pos (by omega)]; done)) (by decide) hM | exact QM_ok ht (by first | (rw [if_neg (by omega)]; done) | (rw [if_neg (by omega), if_neg (by omega)]; done) | (rw [if_neg (by omega), if_neg (by omega), if_neg (by omega)]; done) | (rw [if_neg (by omega), if_neg (by omega), if_neg (by omega), if_neg (by omega)]; done)) (by congr 2; omega) hM
    · skip
      try simp only [b2_0, b2_n0] at c14
      refine e_iconst dX9_picture_17 ?_
      refine e_goto (tgt := 22) dX9_picture_18 (by decide) ?_
      refine e_callV (As := [zI _]) (cb := 10) dX9_picture_22 moX9_fails mvX9_fails mlX9_135 (by decide) rfl hM.1.1 rfl (Nat.le_of_ble_eq_true rfl) ⟨by decide, by decide, by decide, by decide⟩ (c_X9_fails hl hM.1 _ (by first | omega | exact b2_in)) (fun E h1 q => by cases q.1) (fun v h1 q => ?_)
      obtain ⟨e1, e2⟩ := q; cases e1; have ht := thr e2; have hM := MM_thr hM e2
      refine e_if_eq (tgt := 32) dX9_picture_25 (by decide) b2_in (fun c25 => ?_) (fun c25 => ?_)
      · skip
        try simp only [b2_0, b2_n0] at c25
        refine e_aload_n dX9_picture_32 rfl rfl ?_
        refine m_arr 40 dX9_picture_33 flX9_119 rfl hM (by decide) ?_
        refine e_bipush dX9_picture_36 (by decide) ?_
        refine e_iload_n dX9_picture_38 rfl rfl ?_
        refine e_imul dX9_picture_39 ?_
        refine e_iload_n dX9_picture_40 rfl rfl ?_
        refine e_bipush dX9_picture_41 (by decide) ?_
        refine e_imul dX9_picture_43 ?_
        refine e_iadd dX9_picture_44 ?_
        refine e_iload_n dX9_picture_45 rfl rfl ?_
        refine e_iadd dX9_picture_46 ?_
        refine m_ld dX9_picture_47 hM (by decide) rfl (by omega) (by simp only [mL]; omega) rfl (fun r47 => ?_)
        refine e_iret dX9_picture_48 rfl trivial (by decide) (by decide) ?_
        first | exact QM_no ht (by first | (rw [if_pos (by omega)]; done) | (rw [if_neg (by omega), if_pos (by omega)]; done) | (rw [if_neg (by omega), if_neg (by omega), if_pos (by omega)]; done) | (rw [if_neg (by omega), if_neg (by omega), if_neg (by omega), if_pos (by omega)]; done)) (by decide) hM | exact QM_ok ht (by first | (rw [if_neg (by omega)]; done) | (rw [if_neg (by omega), if_neg (by omega)]; done) | (rw [if_neg (by omega), if_neg (by omega), if_neg (by omega)]; done) | (rw [if_neg (by omega), if_neg (by omega), if_neg (by omega), if_neg (by omega)]; done)) (by congr 2; omega) hM
      · skip
        try simp only [b2_0, b2_n0] at c25
        exfalso; omega
set_option maxHeartbeats 4000000 in
set_option maxRecDepth 100000 in
theorem c_X9_seen {l : Launch} (hl : l.stackTraces = false) {S : S9} {h : zH} (hM : RM S h) (hN : IN S) (hI : IW S) (hO : IO S) (hC : IC S) (hK : IK S) (c : Int) (hc : zin c) (x y : Int) (hx : zin x) (hy : zin y) : zC l MX9_seen [zR (some 99), zI c, zI x, zI y] h (QM S h (if ¬ (isC S c ∧ isXY x y) then 1 else 0) (zI 0) (zI (seen S c (y * 12 + x))) S) := by
  refine zC_of hl rfl rfl (by decide) rfl rfl (Nat.le_of_ble_eq_true rfl) ?_
  have hM : MM S h h := MM_rf hM
  have hN2 := hN
  obtain ⟨n1, n2, n3, n4, n5⟩ := hN2
  refine e_aload_n dX9_seen_0 rfl rfl ?_
  refine e_aload_n dX9_seen_1 rfl rfl ?_
  refine e_iload_n dX9_seen_2 rfl rfl ?_
  refine e_callV (As := [zI _]) (cb := 10) dX9_seen_3 moX9_isClient mvX9_isClient mlX9_177 (by decide) rfl hM.1.1 rfl (Nat.le_of_ble_eq_true rfl) ⟨by decide, by decide, by decide, by decide⟩ (c_X9_isClient hl hM.1 hN _ hc) (fun E h1 q => by cases q.1) (fun v h9 q => ?_)
  obtain ⟨e1, e2⟩ := q; cases e1; rw [e2]; clear e2 h9
  refine e_if_eq (tgt := 21) dX9_seen_6 (by decide) b2_in (fun c6 => ?_) (fun c6 => ?_)
  · skip
    try simp only [b2_0, b2_n0] at c6
    refine e_iconst dX9_seen_21 ?_
    refine e_callV (As := [zI _]) (cb := 10) dX9_seen_22 moX9_fails mvX9_fails mlX9_135 (by decide) rfl hM.1.1 rfl (Nat.le_of_ble_eq_true rfl) ⟨by decide, by decide, by decide, by decide⟩ (c_X9_fails hl hM.1 _ (by first | omega | exact b2_in)) (fun E h1 q => by cases q.1) (fun v h1 q => ?_)
    obtain ⟨e1, e2⟩ := q; cases e1; have ht := thr e2; have hM := MM_thr hM e2
    refine e_if_eq (tgt := 30) dX9_seen_25 (by decide) b2_in (fun c25 => ?_) (fun c25 => ?_)
    · skip
      try simp only [b2_0, b2_n0] at c25
      exfalso; omega
    · skip
      try simp only [b2_0, b2_n0] at c25
      refine e_iconst dX9_seen_28 ?_
      refine e_iret dX9_seen_29 rfl trivial (by decide) (by decide) ?_
      exact QM_no ht (by first | (rw [if_pos (by omega)]; done) | (rw [if_neg (by omega), if_pos (by omega)]; done) | (rw [if_neg (by omega), if_neg (by omega), if_pos (by omega)]; done) | (rw [if_neg (by omega), if_neg (by omega), if_neg (by omega), if_pos (by omega)]; done)) (by decide) hM
  · skip
    try simp only [b2_0, b2_n0] at c6
    refine e_iload_n dX9_seen_9 rfl rfl ?_
    refine e_iload_n dX9_seen_10 rfl rfl ?_
    refine e_callS (As := [zI _, zI _]) dX9_seen_11 moX9_isCell msX9_isCell mlX9_171 rfl (Nat.le_of_ble_eq_true rfl) ⟨by decide, by decide, by decide, by decide⟩ (c_X9_isCell hl _ _ hx hy) (fun E h1 q => by cases q.1) (fun v h9 q => ?_)
    obtain ⟨e1, e2⟩ := q; cases e1; rw [e2]; clear e2 h9
    refine e_if_eq (tgt := 21) dX9_seen_14 (by decide) b2_in (fun c14 => ?_) (fun c14 => ?_)
    · skip
      try simp only [b2_0, b2_n0] at c14
      refine e_iconst dX9_seen_21 ?_
      refine e_callV (As := [zI _]) (cb := 10) dX9_seen_22 moX9_fails mvX9_fails mlX9_135 (by decide) rfl hM.1.1 rfl (Nat.le_of_ble_eq_true rfl) ⟨by decide, by decide, by decide, by decide⟩ (c_X9_fails hl hM.1 _ (by first | omega | exact b2_in)) (fun E h1 q => by cases q.1) (fun v h1 q => ?_)
      obtain ⟨e1, e2⟩ := q; cases e1; have ht := thr e2; have hM := MM_thr hM e2
      refine e_if_eq (tgt := 30) dX9_seen_25 (by decide) b2_in (fun c25 => ?_) (fun c25 => ?_)
      · skip
        try simp only [b2_0, b2_n0] at c25
        exfalso; omega
      · skip
        try simp only [b2_0, b2_n0] at c25
        refine e_iconst dX9_seen_28 ?_
        refine e_iret dX9_seen_29 rfl trivial (by decide) (by decide) ?_
        exact QM_no ht (by first | (rw [if_pos (by omega)]; done) | (rw [if_neg (by omega), if_pos (by omega)]; done) | (rw [if_neg (by omega), if_neg (by omega), if_pos (by omega)]; done) | (rw [if_neg (by omega), if_neg (by omega), if_neg (by omega), if_pos (by omega)]; done)) (by decide) hM
    · skip
      try simp only [b2_0, b2_n0] at c14
      refine e_iconst dX9_seen_17 ?_
      refine e_goto (tgt := 22) dX9_seen_18 (by decide) ?_
      refine e_callV (As := [zI _]) (cb := 10) dX9_seen_22 moX9_fails mvX9_fails mlX9_135 (by decide) rfl hM.1.1 rfl (Nat.le_of_ble_eq_true rfl) ⟨by decide, by decide, by decide, by decide⟩ (c_X9_fails hl hM.1 _ (by first | omega | exact b2_in)) (fun E h1 q => by cases q.1) (fun v h1 q => ?_)
      obtain ⟨e1, e2⟩ := q; cases e1; have ht := thr e2; have hM := MM_thr hM e2
      refine e_if_eq (tgt := 30) dX9_seen_25 (by decide) b2_in (fun c25 => ?_) (fun c25 => ?_)
      · skip
        try simp only [b2_0, b2_n0] at c25
        have q1 := hC c (by omega) (by omega)
        have q2 := n5 (S 35 c) (by omega) (by omega)
        refine e_iload_n dX9_seen_30 rfl rfl ?_
        refine e_bipush dX9_seen_31 (by decide) ?_
        refine e_imul dX9_seen_33 ?_
        refine e_iload_n dX9_seen_34 rfl rfl ?_
        refine e_iadd dX9_seen_35 ?_
        refine e_istore dX9_seen_36 (by decide) rfl rfl ?_
        refine e_aload_n dX9_seen_38 rfl rfl ?_
        refine m_arr 40 dX9_seen_39 flX9_119 rfl hM (by decide) ?_
        refine e_bipush dX9_seen_42 (by decide) ?_
        refine e_iload_n dX9_seen_44 rfl rfl ?_
        refine e_imul dX9_seen_45 ?_
        refine e_iload dX9_seen_46 rfl ?_
        refine e_iadd dX9_seen_48 ?_
        refine m_ld dX9_seen_49 hM (by decide) rfl (by omega) (by simp only [mL]; omega) rfl (fun r49 => ?_)
        refine e_istore dX9_seen_50 (by decide) rfl rfl ?_
        refine e_bipush dX9_seen_52 (by decide) ?_
        refine e_aload_n dX9_seen_54 rfl rfl ?_
        refine m_arr 35 dX9_seen_55 flX9_104 rfl hM (by decide) ?_
        refine e_iload_n dX9_seen_58 rfl rfl ?_
        refine m_ld dX9_seen_59 hM (by decide) rfl (by omega) (by simp only [mL]; omega) rfl (fun r59 => ?_)
        refine e_imul dX9_seen_60 ?_
        refine e_istore dX9_seen_61 (by decide) rfl rfl ?_
        refine e_iload dX9_seen_63 rfl ?_
        refine e_istore dX9_seen_65 (by decide) rfl rfl ?_
        have lp67 : ∀ (d : Nat) (i v : Int), (S 17 (S 35 c) - i).toNat < d → 0 ≤ i → i ≤ S 17 (S 35 c) → v = seenN S c (S 35 c) (y * 12 + x) (S 40 (96 * c + (y * 12 + x))) i.toNat → AW l MX9_seen (QM S h (if ¬ (isC S c ∧ isXY x y) then 1 else 0) (zI 0) (zI (seen S c (y * 12 + x))) S) 0 0 67 [zR (some 99), zI c, zI x, zI y, zI (y * 12 + x), zI v, zI (20 * S 35 c), zI (20 * S 35 c + i)] [] h1 := by
          intro d
          induction d with
          | zero => intro i v hd i0 i1 hv; exact absurd hd (by omega)
          | succ d ih =>
            have ih67 := ih
            intro i v hd i0 i1 hv
            have es : seenN S c (S 35 c) (y * 12 + x) (S 40 (96 * c + (y * 12 + x))) (i + 1).toNat = if S 21 (20 * S 35 c + i) = c ∧ placeOf S (S 18 (20 * S 35 c + i)) (S 20 (20 * S 35 c + i)) = y * 12 + x then S 19 (20 * S 35 c + i) else v := by
              rw [show (i + 1).toNat = i.toNat + 1 by omega]
              unfold seenN
              rw [show ((i.toNat : Nat) : Int) = i by omega, ← hv]
            refine e_iload dX9_seen_67 rfl ?_
            refine e_iload dX9_seen_69 rfl ?_
            refine e_aload_n dX9_seen_71 rfl rfl ?_
            refine m_arr 17 dX9_seen_72 flX9_50 rfl hM (by decide) ?_
            refine e_aload_n dX9_seen_75 rfl rfl ?_
            refine m_arr 35 dX9_seen_76 flX9_104 rfl hM (by decide) ?_
            refine e_iload_n dX9_seen_79 rfl rfl ?_
            refine m_ld dX9_seen_80 hM (by decide) rfl (by omega) (by simp only [mL]; omega) rfl (fun r80 => ?_)
            refine m_ld dX9_seen_81 hM (by decide) rfl (by omega) (by simp only [mL]; omega) rfl (fun r81 => ?_)
            refine e_iadd dX9_seen_82 ?_
            refine e_icmp_ge (tgt := 140) dX9_seen_83 (by decide) (by omega) (by omega) (fun c83 => ?_) (fun c83 => ?_)
            · skip
              refine e_iload dX9_seen_140 rfl ?_
              refine e_iret dX9_seen_142 rfl trivial (by decide) (by decide) ?_
              exact QM_ok ht (by first | (rw [if_neg (by omega)]; done) | (rw [if_neg (by omega), if_neg (by omega)]; done) | (rw [if_neg (by omega), if_neg (by omega), if_neg (by omega)]; done) | (rw [if_neg (by omega), if_neg (by omega), if_neg (by omega), if_neg (by omega)]; done)) (by rw [hv, show i = S 17 (S 35 c) by omega]; rfl) hM
            · skip
              refine e_aload_n dX9_seen_86 rfl rfl ?_
              refine m_arr 21 dX9_seen_87 flX9_62 rfl hM (by decide) ?_
              refine e_iload dX9_seen_90 rfl ?_
              refine m_ld dX9_seen_92 hM (by decide) rfl (by omega) (by simp only [mL]; omega) rfl (fun r92 => ?_)
              refine e_iload_n dX9_seen_93 rfl rfl ?_
              refine e_icmp_ne (tgt := 130) dX9_seen_94 (by decide) (by omega) (by omega) (fun c94 => ?_) (fun c94 => ?_)
              · skip
                refine e_iload dX9_seen_130 rfl ?_
                refine e_istore dX9_seen_132 (by decide) rfl rfl ?_
                refine e_iinc dX9_seen_134 (by decide) rfl rfl rfl rfl ?_
                refine e_goto (tgt := 67) dX9_seen_137 (by decide) ?_
                rw [show (20 * S 35 c + i + 1 : Int) = 20 * S 35 c + (i + 1) by omega]
                exact ih _ _ (by omega) (by omega) (by omega) (by rw [es]; first | rw [if_pos (by omega)] | rw [if_neg (by omega)])
              · skip
                have q3 := hK (S 35 c) i (by omega) (by omega) i0 (by omega)
                have q5 := hI _ _ q3.1
                have q6 := area_le q5.2.2.2.2.1 q5.2.2.2.2.2.1 q5.2.2.2.2.2.2.1 q5.2.2.2.2.2.2.2.1
                have q4 := q3
                obtain ⟨⟨q41, q42, q43, q44⟩, q45, q46, q47, q48⟩ := q4
                refine e_aload_n dX9_seen_97 rfl rfl ?_
                refine e_aload_n dX9_seen_98 rfl rfl ?_
                refine m_arr 18 dX9_seen_99 flX9_53 rfl hM (by decide) ?_
                refine e_iload dX9_seen_102 rfl ?_
                refine m_ld dX9_seen_104 hM (by decide) rfl (by omega) (by simp only [mL]; omega) rfl (fun r104 => ?_)
                refine e_aload_n dX9_seen_105 rfl rfl ?_
                refine m_arr 20 dX9_seen_106 flX9_59 rfl hM (by decide) ?_
                refine e_iload dX9_seen_109 rfl ?_
                refine m_ld dX9_seen_111 hM (by decide) rfl (by omega) (by simp only [mL]; omega) rfl (fun r111 => ?_)
                refine e_callV (As := [zI _, zI _]) (cb := 10) dX9_seen_112 moX9_placeOf mvX9_placeOf mlX9_183 (by decide) rfl hM.1.1 rfl (Nat.le_of_ble_eq_true rfl) ⟨by decide, by decide, by decide, by decide⟩ (c_X9_placeOf hl hM.1 _ _ (by omega) (by omega) q5 (by omega) (by omega)) (fun E h1 q => by cases q.1) (fun v h9 q => ?_)
                obtain ⟨e1, e2⟩ := q; cases e1; rw [e2]; clear e2 h9
                refine e_iload dX9_seen_115 rfl ?_
                refine e_icmp_ne (tgt := 130) dX9_seen_117 (by decide) (by have := placeOf_in (S := S) (w := S 18 (20 * S 35 c + i)) (c := S 20 (20 * S 35 c + i)); omega) (by omega) (fun c117 => ?_) (fun c117 => ?_)
                · skip
                  refine e_iload dX9_seen_130 rfl ?_
                  refine e_istore dX9_seen_132 (by decide) rfl rfl ?_
                  refine e_iinc dX9_seen_134 (by decide) rfl rfl rfl rfl ?_
                  refine e_goto (tgt := 67) dX9_seen_137 (by decide) ?_
                  rw [show (20 * S 35 c + i + 1 : Int) = 20 * S 35 c + (i + 1) by omega]
                  exact ih _ _ (by omega) (by omega) (by omega) (by rw [es]; first | rw [if_pos (by omega)] | rw [if_neg (by omega)])
                · skip
                  refine e_aload_n dX9_seen_120 rfl rfl ?_
                  refine m_arr 19 dX9_seen_121 flX9_56 rfl hM (by decide) ?_
                  refine e_iload dX9_seen_124 rfl ?_
                  refine m_ld dX9_seen_126 hM (by decide) rfl (by omega) (by simp only [mL]; omega) rfl (fun r126 => ?_)
                  refine e_goto (tgt := 132) dX9_seen_127 (by decide) ?_
                  refine e_istore dX9_seen_132 (by decide) rfl rfl ?_
                  refine e_iinc dX9_seen_134 (by decide) rfl rfl rfl rfl ?_
                  refine e_goto (tgt := 67) dX9_seen_137 (by decide) ?_
                  rw [show (20 * S 35 c + i + 1 : Int) = 20 * S 35 c + (i + 1) by omega]
                  exact ih _ _ (by omega) (by omega) (by omega) (by rw [es]; first | rw [if_pos (by omega)] | rw [if_neg (by omega)])
        have hl0 := lp67 21 0 _ (by omega) (by omega) (by omega) rfl
        rw [Int.add_zero] at hl0
        exact hl0
      · skip
        try simp only [b2_0, b2_n0] at c25
        exfalso; omega
set_option maxHeartbeats 4000000 in
set_option maxRecDepth 100000 in
theorem c_X9_countBehind {l : Launch} (hl : l.stackTraces = false) {S : S9} {h : zH} (hM : RM S h) (hN : IN S) (hI : IW S) (hO : IO S) (hC : IC S) (hK : IK S) (c : Int) (hc : zin c) (hc0 : isC S c) : zC l MX9_countBehind [zR (some 99), zI c] h (fun o h' => o = .inl (some (zI (cntB S c))) ∧ h' = h) := by
  refine zC_of hl rfl rfl (by decide) rfl rfl (Nat.le_of_ble_eq_true rfl) ?_
  have hM : MM S h h := MM_rf hM
  have hN2 := hN
  obtain ⟨n1, n2, n3, n4, n5⟩ := hN2
  have q1 := hC c hc0.1 hc0.2
  have hM0 := hM
  refine e_iconst dX9_countBehind_0 ?_
  refine e_istore_n dX9_countBehind_1 rfl (by decide) rfl rfl ?_
  refine e_iconst dX9_countBehind_2 ?_
  refine e_istore_n dX9_countBehind_3 rfl (by decide) rfl rfl ?_
  have lp4 : ∀ (d : Nat) (i v : Int), (96 - i).toNat < d → 0 ≤ i → i ≤ 96 → v = sg (fun p => b2 (S 40 (96 * c + p) ≠ screenAt S (S 35 c) p)) i.toNat → AW l MX9_countBehind (fun o h' => o = .inl (some (zI (cntB S c))) ∧ h' = h) 0 0 4 [zR (some 99), zI c, zI v, zI i] [] h := by
    intro d
    induction d with
    | zero => intro i v hd i0 i1 hv; exact absurd hd (by omega)
    | succ d ih =>
      have ih4 := ih
      intro i v hd i0 i1 hv
      have cc := sg_in1 (f := fun p => b2 (S 40 (96 * c + p) ≠ screenAt S (S 35 c) p)) (fun _ _ => b2_le) i i0
      refine e_iload_n dX9_countBehind_4 rfl rfl ?_
      refine e_bipush dX9_countBehind_5 (by decide) ?_
      refine e_icmp_ge (tgt := 49) dX9_countBehind_7 (by decide) (by omega) (by omega) (fun c7 => ?_) (fun c7 => ?_)
      · skip
        refine e_iload_n dX9_countBehind_49 rfl rfl ?_
        refine e_iret dX9_countBehind_50 rfl trivial (by decide) (by decide) ?_
        exact ⟨zqe (by rw [hv, show i = 96 by omega]; rfl), rfl⟩
      · skip
        refine e_iload_n dX9_countBehind_10 rfl rfl ?_
        refine e_aload_n dX9_countBehind_11 rfl rfl ?_
        refine m_arr 40 dX9_countBehind_12 flX9_119 rfl hM (by decide) ?_
        refine e_bipush dX9_countBehind_15 (by decide) ?_
        refine e_iload_n dX9_countBehind_17 rfl rfl ?_
        refine e_imul dX9_countBehind_18 ?_
        refine e_iload_n dX9_countBehind_19 rfl rfl ?_
        refine e_iadd dX9_countBehind_20 ?_
        refine m_ld dX9_countBehind_21 hM (by decide) rfl (by omega) (by simp only [mL]; omega) rfl (fun r21 => ?_)
        refine e_aload_n dX9_countBehind_22 rfl rfl ?_
        refine e_aload_n dX9_countBehind_23 rfl rfl ?_
        refine m_arr 35 dX9_countBehind_24 flX9_104 rfl hM (by decide) ?_
        refine e_iload_n dX9_countBehind_27 rfl rfl ?_
        refine m_ld dX9_countBehind_28 hM (by decide) rfl (by omega) (by simp only [mL]; omega) rfl (fun r28 => ?_)
        refine e_iload_n dX9_countBehind_29 rfl rfl ?_
        refine e_callV (As := [zI _, zI _]) (cb := 10) dX9_countBehind_30 moX9_screenAt mvX9_screenAt mlX9_164 (by decide) rfl hM.1.1 rfl (Nat.le_of_ble_eq_true rfl) ⟨by decide, by decide, by decide, by decide⟩ (c_X9_screenAt hl hM.1 hN hI hO _ _ (by omega) (by omega) i0 (by omega)) (fun E h1 q => by cases q.1) (fun v h9 q => ?_)
        obtain ⟨e1, e2⟩ := q; cases e1; rw [e2]; clear e2 h9
        refine e_G (fun G => ?_)
        have rs := screen_in (s := S 35 c) (p := i) hM.1 G
        refine e_icmp_ne (tgt := 40) dX9_countBehind_33 (by decide) (by omega) (by omega) (fun c33 => ?_) (fun c33 => ?_)
        · skip
          refine e_iconst dX9_countBehind_40 ?_
          refine e_iadd dX9_countBehind_41 ?_
          refine e_istore_n dX9_countBehind_42 rfl (by decide) rfl rfl ?_
          refine e_iinc dX9_countBehind_43 (by decide) rfl rfl rfl rfl ?_
          refine e_goto (tgt := 4) dX9_countBehind_46 (by decide) ?_
          exact ih _ _ (by omega) (by omega) (by omega) (by rw [sg_s i0, ← hv]; first | rw [b2_t (by omega)] | rw [b2_f (by omega)])
        · skip
          refine e_iconst dX9_countBehind_36 ?_
          refine e_goto (tgt := 41) dX9_countBehind_37 (by decide) ?_
          refine e_iadd dX9_countBehind_41 ?_
          refine e_istore_n dX9_countBehind_42 rfl (by decide) rfl rfl ?_
          refine e_iinc dX9_countBehind_43 (by decide) rfl rfl rfl rfl ?_
          refine e_goto (tgt := 4) dX9_countBehind_46 (by decide) ?_
          exact ih _ _ (by omega) (by omega) (by omega) (by rw [sg_s i0, ← hv]; first | rw [b2_t (by omega)] | rw [b2_f (by omega)])
  exact lp4 97 0 0 (by omega) (by omega) (by omega) rfl
set_option maxHeartbeats 4000000 in
set_option maxRecDepth 100000 in
theorem c_X9_behind {l : Launch} (hl : l.stackTraces = false) {S : S9} {h : zH} (hM : RM S h) (hN : IN S) (hI : IW S) (hO : IO S) (hC : IC S) (hK : IK S) (c : Int) (hc : zin c) : zC l MX9_behind [zR (some 99), zI c] h (QM S h (if ¬ isC S c then 1 else 0) (zI 0) (zI (cntB S c)) S) := by
  refine zC_of hl rfl rfl (by decide) rfl rfl (Nat.le_of_ble_eq_true rfl) ?_
  have hM : MM S h h := MM_rf hM
  have hN2 := hN
  obtain ⟨n1, n2, n3, n4, n5⟩ := hN2
  refine e_aload_n dX9_behind_0 rfl rfl ?_
  refine e_iload_n dX9_behind_1 rfl rfl ?_
  refine e_callV (As := [zI _]) (cb := 10) dX9_behind_2 moX9_failsClient mvX9_failsClient mlX9_180 (by decide) rfl hM.1.1 rfl (Nat.le_of_ble_eq_true rfl) ⟨by decide, by decide, by decide, by decide⟩ (c_X9_failsClient hl hM.1 hN _ hc) (fun E h1 q => by cases q.1) (fun v h1 q => ?_)
  obtain ⟨e1, e2⟩ := q; cases e1; have ht := thr e2; have hM := MM_thr hM e2
  refine e_if_eq (tgt := 12) dX9_behind_5 (by decide) b2_in (fun c5 => ?_) (fun c5 => ?_)
  · skip
    try simp only [b2_0, b2_n0] at c5
    refine e_aload_n dX9_behind_12 rfl rfl ?_
    refine e_iload_n dX9_behind_13 rfl rfl ?_
    refine e_callV (As := [zI _]) (cb := 10) dX9_behind_14 moX9_countBehind mvX9_countBehind mlX9_186 (by decide) rfl hM.1.1 rfl (Nat.le_of_ble_eq_true rfl) ⟨by decide, by decide, by decide, by decide⟩ (c_X9_countBehind hl hM.1 hN hI hO hC hK _ hc (by omega)) (fun E h1 q => by cases q.1) (fun v h9 q => ?_)
    obtain ⟨e1, e2⟩ := q; cases e1; rw [e2]; clear e2 h9
    refine e_iret dX9_behind_17 rfl trivial (by decide) (by decide) ?_
    first | exact QM_no (ht.trans (b2_t (by omega))) (by first | (rw [if_pos (by omega)]; done) | (rw [if_neg (by omega), if_pos (by omega)]; done) | (rw [if_neg (by omega), if_neg (by omega), if_pos (by omega)]; done) | (rw [if_neg (by omega), if_neg (by omega), if_neg (by omega), if_pos (by omega)]; done)) (by decide) hM | exact QM_no ht (by first | (rw [if_pos (by omega)]; done) | (rw [if_neg (by omega), if_pos (by omega)]; done) | (rw [if_neg (by omega), if_neg (by omega), if_pos (by omega)]; done) | (rw [if_neg (by omega), if_neg (by omega), if_neg (by omega), if_pos (by omega)]; done)) (by decide) hM | exact QM_ok (ht.trans (b2_f (by omega))) (by first | (rw [if_neg (by omega)]; done) | (rw [if_neg (by omega), if_neg (by omega)]; done) | (rw [if_neg (by omega), if_neg (by omega), if_neg (by omega)]; done) | (rw [if_neg (by omega), if_neg (by omega), if_neg (by omega), if_neg (by omega)]; done)) rfl hM | exact QM_ok ht (by first | (rw [if_neg (by omega)]; done) | (rw [if_neg (by omega), if_neg (by omega)]; done) | (rw [if_neg (by omega), if_neg (by omega), if_neg (by omega)]; done) | (rw [if_neg (by omega), if_neg (by omega), if_neg (by omega), if_neg (by omega)]; done)) rfl hM
  · skip
    try simp only [b2_0, b2_n0] at c5
    refine e_iconst dX9_behind_8 ?_
    refine e_goto (tgt := 17) dX9_behind_9 (by decide) ?_
    refine e_iret dX9_behind_17 rfl trivial (by decide) (by decide) ?_
    first | exact QM_no (ht.trans (b2_t (by omega))) (by first | (rw [if_pos (by omega)]; done) | (rw [if_neg (by omega), if_pos (by omega)]; done) | (rw [if_neg (by omega), if_neg (by omega), if_pos (by omega)]; done) | (rw [if_neg (by omega), if_neg (by omega), if_neg (by omega), if_pos (by omega)]; done)) (by decide) hM | exact QM_no ht (by first | (rw [if_pos (by omega)]; done) | (rw [if_neg (by omega), if_pos (by omega)]; done) | (rw [if_neg (by omega), if_neg (by omega), if_pos (by omega)]; done) | (rw [if_neg (by omega), if_neg (by omega), if_neg (by omega), if_pos (by omega)]; done)) (by decide) hM | exact QM_ok (ht.trans (b2_f (by omega))) (by first | (rw [if_neg (by omega)]; done) | (rw [if_neg (by omega), if_neg (by omega)]; done) | (rw [if_neg (by omega), if_neg (by omega), if_neg (by omega)]; done) | (rw [if_neg (by omega), if_neg (by omega), if_neg (by omega), if_neg (by omega)]; done)) rfl hM | exact QM_ok ht (by first | (rw [if_neg (by omega)]; done) | (rw [if_neg (by omega), if_neg (by omega)]; done) | (rw [if_neg (by omega), if_neg (by omega), if_neg (by omega)]; done) | (rw [if_neg (by omega), if_neg (by omega), if_neg (by omega), if_neg (by omega)]; done)) rfl hM
set_option maxHeartbeats 4000000 in
set_option maxRecDepth 100000 in
theorem c_X9_guesses {l : Launch} (hl : l.stackTraces = false) {S : S9} {h : zH} (hM : RM S h) (hN : IN S) (hI : IW S) (hO : IO S) (hC : IC S) (hK : IK S) (c : Int) (hc : zin c) : zC l MX9_guesses [zR (some 99), zI c] h (QM S h (if ¬ isC S c then 1 else 0) (zI 0) (zI (gues S c)) S) := by
  refine zC_of hl rfl rfl (by decide) rfl rfl (Nat.le_of_ble_eq_true rfl) ?_
  have hM : MM S h h := MM_rf hM
  have hN2 := hN
  obtain ⟨n1, n2, n3, n4, n5⟩ := hN2
  refine e_aload_n dX9_guesses_0 rfl rfl ?_
  refine e_iload_n dX9_guesses_1 rfl rfl ?_
  refine e_callV (As := [zI _]) (cb := 10) dX9_guesses_2 moX9_failsClient mvX9_failsClient mlX9_180 (by decide) rfl hM.1.1 rfl (Nat.le_of_ble_eq_true rfl) ⟨by decide, by decide, by decide, by decide⟩ (c_X9_failsClient hl hM.1 hN _ hc) (fun E h1 q => by cases q.1) (fun v h1 q => ?_)
  obtain ⟨e1, e2⟩ := q; cases e1; have ht := thr e2; have hM := MM_thr hM e2
  refine e_if_eq (tgt := 10) dX9_guesses_5 (by decide) b2_in (fun c5 => ?_) (fun c5 => ?_)
  · skip
    try simp only [b2_0, b2_n0] at c5
    have q1 := hC c (by omega) (by omega)
    have q2 := n5 (S 35 c) (by omega) (by omega)
    refine e_iconst dX9_guesses_10 ?_
    refine e_istore_n dX9_guesses_11 rfl (by decide) rfl rfl ?_
    refine e_bipush dX9_guesses_12 (by decide) ?_
    refine e_aload_n dX9_guesses_14 rfl rfl ?_
    refine m_arr 35 dX9_guesses_15 flX9_104 rfl hM (by decide) ?_
    refine e_iload_n dX9_guesses_18 rfl rfl ?_
    refine m_ld dX9_guesses_19 hM (by decide) rfl (by omega) (by simp only [mL]; omega) rfl (fun r19 => ?_)
    refine e_imul dX9_guesses_20 ?_
    refine e_istore_n dX9_guesses_21 rfl (by decide) rfl rfl ?_
    refine e_iload_n dX9_guesses_22 rfl rfl ?_
    refine e_istore dX9_guesses_23 (by decide) rfl rfl ?_
    have lp25 : ∀ (d : Nat) (i v : Int), (S 17 (S 35 c) - i).toNat < d → 0 ≤ i → i ≤ S 17 (S 35 c) → v = sg (fun k => b2 (S 21 (20 * S 35 c + k) = c)) i.toNat → AW l MX9_guesses (QM S h (if ¬ isC S c then 1 else 0) (zI 0) (zI (gues S c)) S) 0 0 25 [zR (some 99), zI c, zI v, zI (20 * S 35 c), zI (20 * S 35 c + i)] [] h1 := by
      intro d
      induction d with
      | zero => intro i v hd i0 i1 hv; exact absurd hd (by omega)
      | succ d ih =>
        have ih25 := ih
        intro i v hd i0 i1 hv
        have cc := sg_in1 (f := fun k => b2 (S 21 (20 * S 35 c + k) = c)) (fun _ _ => b2_le) i i0
        refine e_iload dX9_guesses_25 rfl ?_
        refine e_iload_n dX9_guesses_27 rfl rfl ?_
        refine e_aload_n dX9_guesses_28 rfl rfl ?_
        refine m_arr 17 dX9_guesses_29 flX9_50 rfl hM (by decide) ?_
        refine e_aload_n dX9_guesses_32 rfl rfl ?_
        refine m_arr 35 dX9_guesses_33 flX9_104 rfl hM (by decide) ?_
        refine e_iload_n dX9_guesses_36 rfl rfl ?_
        refine m_ld dX9_guesses_37 hM (by decide) rfl (by omega) (by simp only [mL]; omega) rfl (fun r37 => ?_)
        refine m_ld dX9_guesses_38 hM (by decide) rfl (by omega) (by simp only [mL]; omega) rfl (fun r38 => ?_)
        refine e_iadd dX9_guesses_39 ?_
        refine e_icmp_ge (tgt := 68) dX9_guesses_40 (by decide) (by omega) (by omega) (fun c40 => ?_) (fun c40 => ?_)
        · skip
          refine e_iload_n dX9_guesses_68 rfl rfl ?_
          refine e_iret dX9_guesses_69 rfl trivial (by decide) (by decide) ?_
          exact QM_ok (ht.trans (b2_f (by omega))) (by first | (rw [if_neg (by omega)]; done) | (rw [if_neg (by omega), if_neg (by omega)]; done) | (rw [if_neg (by omega), if_neg (by omega), if_neg (by omega)]; done) | (rw [if_neg (by omega), if_neg (by omega), if_neg (by omega), if_neg (by omega)]; done)) (by rw [hv, show i = S 17 (S 35 c) by omega]; rfl) hM
        · skip
          refine e_iload_n dX9_guesses_43 rfl rfl ?_
          refine e_aload_n dX9_guesses_44 rfl rfl ?_
          refine m_arr 21 dX9_guesses_45 flX9_62 rfl hM (by decide) ?_
          refine e_iload dX9_guesses_48 rfl ?_
          refine m_ld dX9_guesses_50 hM (by decide) rfl (by omega) (by simp only [mL]; omega) rfl (fun r50 => ?_)
          refine e_iload_n dX9_guesses_51 rfl rfl ?_
          refine e_icmp_ne (tgt := 59) dX9_guesses_52 (by decide) (by omega) (by omega) (fun c52 => ?_) (fun c52 => ?_)
          · skip
            refine e_iconst dX9_guesses_59 ?_
            refine e_iadd dX9_guesses_60 ?_
            refine e_istore_n dX9_guesses_61 rfl (by decide) rfl rfl ?_
            refine e_iinc dX9_guesses_62 (by decide) rfl rfl rfl rfl ?_
            refine e_goto (tgt := 25) dX9_guesses_65 (by decide) ?_
            rw [show (20 * S 35 c + i + 1 : Int) = 20 * S 35 c + (i + 1) by omega]
            exact ih _ _ (by omega) (by omega) (by omega) (by rw [sg_s i0, ← hv]; first | rw [b2_t (by omega)] | rw [b2_f (by omega)])
          · skip
            refine e_iconst dX9_guesses_55 ?_
            refine e_goto (tgt := 60) dX9_guesses_56 (by decide) ?_
            refine e_iadd dX9_guesses_60 ?_
            refine e_istore_n dX9_guesses_61 rfl (by decide) rfl rfl ?_
            refine e_iinc dX9_guesses_62 (by decide) rfl rfl rfl rfl ?_
            refine e_goto (tgt := 25) dX9_guesses_65 (by decide) ?_
            rw [show (20 * S 35 c + i + 1 : Int) = 20 * S 35 c + (i + 1) by omega]
            exact ih _ _ (by omega) (by omega) (by omega) (by rw [sg_s i0, ← hv]; first | rw [b2_t (by omega)] | rw [b2_f (by omega)])
    have hl0 := lp25 21 0 0 (by omega) (by omega) (by omega) rfl
    rw [Int.add_zero] at hl0
    exact hl0
  · skip
    try simp only [b2_0, b2_n0] at c5
    refine e_iconst dX9_guesses_8 ?_
    refine e_iret dX9_guesses_9 rfl trivial (by decide) (by decide) ?_
    exact QM_no (ht.trans (b2_t (by omega))) (by first | (rw [if_pos (by omega)]; done) | (rw [if_neg (by omega), if_pos (by omega)]; done) | (rw [if_neg (by omega), if_neg (by omega), if_pos (by omega)]; done) | (rw [if_neg (by omega), if_neg (by omega), if_neg (by omega), if_pos (by omega)]; done)) (by decide) hM
set_option maxHeartbeats 4000000 in
set_option maxRecDepth 100000 in
theorem c_X9_topOf {l : Launch} (hl : l.stackTraces = false) {S : S9} {h : zH} (hM : RM S h) (hN : IN S) (hI : IW S) (hO : IO S) (s : Int) (hs0 : 0 ≤ s) (hs1 : s < 4) : zC l MX9_topOf [zR (some 99), zI s] h (fun o h' => o = .inl (some (zI (topOf S s))) ∧ h' = h) := by
  refine zC_of hl rfl rfl (by decide) rfl rfl (Nat.le_of_ble_eq_true rfl) ?_
  have hM : MM S h h := MM_rf hM
  have hN2 := hN.2.2.2.2 s hs0 hs1
  refine e_bipush dX9_topOf_0 (by decide) ?_
  refine e_iload_n dX9_topOf_2 rfl rfl ?_
  refine e_imul dX9_topOf_3 ?_
  refine e_aload_n dX9_topOf_4 rfl rfl ?_
  refine m_arr 16 dX9_topOf_5 flX9_47 rfl hM (by decide) ?_
  refine e_iload_n dX9_topOf_8 rfl rfl ?_
  refine m_ld dX9_topOf_9 hM (by decide) rfl (by omega) (by simp only [mL]; omega) rfl (fun r9 => ?_)
  refine e_iadd dX9_topOf_10 ?_
  refine e_iconst dX9_topOf_11 ?_
  refine e_isub dX9_topOf_12 ?_
  refine e_istore_n dX9_topOf_13 rfl (by decide) rfl rfl ?_
  have lp14 : ∀ (d : Nat) (a : Int), (a - 6 * s + 1).toNat < d → 6 * s - 1 ≤ a → a < 6 * s + S 16 s → topOfN S s (a - 6 * s + 1).toNat = topOf S s → AW l MX9_topOf (fun o h' => o = .inl (some (zI (topOf S s))) ∧ h' = h) 0 0 14 [zR (some 99), zI s, zI a] [] h := by
    intro d
    induction d with
    | zero => intro a hd a1 a2 a3; exact absurd hd (by omega)
    | succ d ih =>
      have ih14 := ih
      intro a hd a1 a2 a3
      refine e_iload_n dX9_topOf_14 rfl rfl ?_
      refine e_bipush dX9_topOf_15 (by decide) ?_
      refine e_iload_n dX9_topOf_17 rfl rfl ?_
      refine e_imul dX9_topOf_18 ?_
      refine e_icmp_lt (tgt := 49) dX9_topOf_19 (by decide) (by omega) (by omega) (fun c19 => ?_) (fun c19 => ?_)
      · skip
        refine e_iconst dX9_topOf_49 ?_
        refine e_iret dX9_topOf_50 rfl trivial (by decide) (by decide) ?_
        exact ⟨zqe (by rw [show (a - 6 * s + 1).toNat = 0 by omega] at a3; exact a3), rfl⟩
      · skip
        have e9 : (a - 6 * s + 1).toNat = (a - 6 * s).toNat + 1 := by omega
        have e8 : 6 * s + ((a - 6 * s).toNat : Int) = a := by omega
        have o1 := hO s (a - 6 * s) hs0 hs1 (by omega) (by omega)
        rw [show 6 * s + (a - 6 * s) = a by omega] at o1
        refine e_aload_n dX9_topOf_22 rfl rfl ?_
        refine m_arr 11 dX9_topOf_23 flX9_32 rfl hM (by decide) ?_
        refine e_aload_n dX9_topOf_26 rfl rfl ?_
        refine m_arr 15 dX9_topOf_27 flX9_44 rfl hM (by decide) ?_
        refine e_iload_n dX9_topOf_30 rfl rfl ?_
        refine m_ld dX9_topOf_31 hM (by decide) rfl (by omega) (by simp only [mL]; omega) rfl (fun r31 => ?_)
        refine m_ldz dX9_topOf_32 hM (by decide) rfl (by omega) (by simp only [mL]; omega) rfl (fun r32 => ?_)
        refine e_if_eq (tgt := 43) dX9_topOf_33 (by decide) (by omega) (fun c33 => ?_) (fun c33 => ?_)
        · skip
          try simp only [b2_0, b2_n0] at c33
          refine e_iinc dX9_topOf_43 (by decide) rfl rfl rfl rfl ?_
          refine e_goto (tgt := 14) dX9_topOf_46 (by decide) ?_
          exact ih _ (by omega) (by omega) (by omega) (by rw [show (a + -1 - 6 * s + 1).toNat = (a - 6 * s).toNat by omega]; rw [e9] at a3; unfold topOfN at a3; rw [if_neg (by rw [e8]; omega)] at a3; exact a3)
        · skip
          try simp only [b2_0, b2_n0] at c33
          refine e_aload_n dX9_topOf_36 rfl rfl ?_
          refine m_arr 15 dX9_topOf_37 flX9_44 rfl hM (by decide) ?_
          refine e_iload_n dX9_topOf_40 rfl rfl ?_
          refine m_ld dX9_topOf_41 hM (by decide) rfl (by omega) (by simp only [mL]; omega) rfl (fun r41 => ?_)
          refine e_iret dX9_topOf_42 rfl trivial (by decide) (by decide) ?_
          exact ⟨zqe (by rw [e9] at a3; unfold topOfN at a3; rw [if_pos (by rw [e8]; omega), e8] at a3; exact a3), rfl⟩
  exact lp14 (6 + 1) _ (by omega) (by omega) (by omega) (by rw [show (6 * s + S 16 s - 1 - 6 * s + 1).toNat = (S 16 s).toNat by omega]; rfl)
set_option maxHeartbeats 4000000 in
set_option maxRecDepth 100000 in
theorem c_X9_type {l : Launch} (hl : l.stackTraces = false) {S : S9} {h : zH} (hM : RM S h) (hN : IN S) (hI : IW S) (hO : IO S) (hC : IC S) (hK : IK S) (c t : Int) (hc : zin c) (ht0 : 0 ≤ t ∧ t < 65536) : zC l MX9_type [zR (some 99), zI c, zI t] h (QM S h (if ¬ isC S c then 1 else if t < 97 ∨ 122 < t then 2 else if topOf S (S 35 c) < 0 then 3 else if S 17 (S 35 c) = 20 then 4 else 0) (zI 0) (zI (S 17 (S 35 c) + 1)) (typS S c t)) := by
  refine zC_of hl rfl rfl (by decide) rfl rfl (Nat.le_of_ble_eq_true rfl) ?_
  have hM : MM S h h := MM_rf hM
  have hN2 := hN
  obtain ⟨n1, n2, n3, n4, n5⟩ := hN2
  refine e_aload_n dX9_type_0 rfl rfl ?_
  refine e_iload_n dX9_type_1 rfl rfl ?_
  refine e_callV (As := [zI _]) (cb := 10) dX9_type_2 moX9_failsClient mvX9_failsClient mlX9_180 (by decide) rfl hM.1.1 rfl (Nat.le_of_ble_eq_true rfl) ⟨by decide, by decide, by decide, by decide⟩ (c_X9_failsClient hl hM.1 hN _ hc) (fun E h1 q => by cases q.1) (fun v h1 q => ?_)
  obtain ⟨e1, e2⟩ := q; cases e1; have ht := thr e2; have hM := MM_thr hM e2
  refine e_if_ne (tgt := 32) dX9_type_5 (by decide) b2_in (fun c5 => ?_) (fun c5 => ?_)
  · skip
    try simp only [b2_0, b2_n0] at c5
    refine e_iconst dX9_type_32 ?_
    refine e_iret dX9_type_33 rfl trivial (by decide) (by decide) ?_
    first | exact QM_no (ht.trans (b2_t (by omega))) (by first | (rw [if_pos (by omega)]; done) | (rw [if_neg (by omega), if_pos (by omega)]; done) | (rw [if_neg (by omega), if_neg (by omega), if_pos (by omega)]; done) | (rw [if_neg (by omega), if_neg (by omega), if_neg (by omega), if_pos (by omega)]; done)) (by decide) hM | exact QM_no ht (by first | (rw [if_pos (by omega)]; done) | (rw [if_neg (by omega), if_pos (by omega)]; done) | (rw [if_neg (by omega), if_neg (by omega), if_pos (by omega)]; done) | (rw [if_neg (by omega), if_neg (by omega), if_neg (by omega), if_pos (by omega)]; done)) (by decide) hM
  · skip
    try simp only [b2_0, b2_n0] at c5
    refine e_aload_n dX9_type_8 rfl rfl ?_
    refine e_iload_n dX9_type_9 rfl rfl ?_
    refine e_bipush dX9_type_10 (by decide) ?_
    refine e_icmp_lt (tgt := 21) dX9_type_12 (by decide) (by omega) (by omega) (fun c12 => ?_) (fun c12 => ?_)
    · skip
      refine e_iconst dX9_type_21 ?_
      refine e_goto (tgt := 26) dX9_type_22 (by decide) ?_
      refine e_callV (As := [zI _]) (cb := 10) dX9_type_26 moX9_fails mvX9_fails mlX9_135 (by decide) rfl hM.1.1 rfl (Nat.le_of_ble_eq_true rfl) ⟨by decide, by decide, by decide, by decide⟩ (c_X9_fails hl hM.1 _ (by first | omega | exact b2_in)) (fun E h1 q => by cases q.1) (fun v h1 q => ?_)
      obtain ⟨e1, e2⟩ := q; cases e1; have ht := thr e2; have hM := MM_thr hM e2
      refine e_if_eq (tgt := 34) dX9_type_29 (by decide) b2_in (fun c29 => ?_) (fun c29 => ?_)
      · skip
        try simp only [b2_0, b2_n0] at c29
        exfalso; omega
      · skip
        try simp only [b2_0, b2_n0] at c29
        refine e_iconst dX9_type_32 ?_
        refine e_iret dX9_type_33 rfl trivial (by decide) (by decide) ?_
        first | exact QM_no (ht.trans (b2_t (by omega))) (by first | (rw [if_pos (by omega)]; done) | (rw [if_neg (by omega), if_pos (by omega)]; done) | (rw [if_neg (by omega), if_neg (by omega), if_pos (by omega)]; done) | (rw [if_neg (by omega), if_neg (by omega), if_neg (by omega), if_pos (by omega)]; done)) (by decide) hM | exact QM_no ht (by first | (rw [if_pos (by omega)]; done) | (rw [if_neg (by omega), if_pos (by omega)]; done) | (rw [if_neg (by omega), if_neg (by omega), if_pos (by omega)]; done) | (rw [if_neg (by omega), if_neg (by omega), if_neg (by omega), if_pos (by omega)]; done)) (by decide) hM
    · skip
      refine e_iload_n dX9_type_15 rfl rfl ?_
      refine e_bipush dX9_type_16 (by decide) ?_
      refine e_icmp_le (tgt := 25) dX9_type_18 (by decide) (by omega) (by omega) (fun c18 => ?_) (fun c18 => ?_)
      · skip
        refine e_iconst dX9_type_25 ?_
        refine e_callV (As := [zI _]) (cb := 10) dX9_type_26 moX9_fails mvX9_fails mlX9_135 (by decide) rfl hM.1.1 rfl (Nat.le_of_ble_eq_true rfl) ⟨by decide, by decide, by decide, by decide⟩ (c_X9_fails hl hM.1 _ (by first | omega | exact b2_in)) (fun E h1 q => by cases q.1) (fun v h1 q => ?_)
        obtain ⟨e1, e2⟩ := q; cases e1; have ht := thr e2; have hM := MM_thr hM e2
        refine e_if_eq (tgt := 34) dX9_type_29 (by decide) b2_in (fun c29 => ?_) (fun c29 => ?_)
        · skip
          try simp only [b2_0, b2_n0] at c29
          have q1 := hC c (by omega) (by omega)
          have q2 := n5 (S 35 c) (by omega) (by omega)
          have q3 := topOf_in (s := S 35 c) hN hO (by omega) (by omega)
          refine e_aload_n dX9_type_34 rfl rfl ?_
          refine m_arr 35 dX9_type_35 flX9_104 rfl hM (by decide) ?_
          refine e_iload_n dX9_type_38 rfl rfl ?_
          refine m_ld dX9_type_39 hM (by decide) rfl (by omega) (by simp only [mL]; omega) (by (try simp (disch := omega) only [up_f, up_i, up_eq, tkO_16, tkO_f]); rfl) (fun r39 => ?_)
          refine e_istore_n dX9_type_40 rfl (by decide) rfl rfl ?_
          refine e_aload_n dX9_type_41 rfl rfl ?_
          refine e_iload_n dX9_type_42 rfl rfl ?_
          refine e_callV (As := [zI _]) (cb := 10) dX9_type_43 moX9_topOf mvX9_topOf mlX9_256 (by decide) rfl hM.1.1 rfl (Nat.le_of_ble_eq_true rfl) ⟨by decide, by decide, by decide, by decide⟩ (c_X9_topOf hl hM.1 hN hI hO _ (by omega) (by omega)) (fun E h1 q => by cases q.1) (fun v h9 q => ?_)
          obtain ⟨e1, e2⟩ := q; cases e1; rw [e2]; clear e2 h9
          refine e_istore dX9_type_46 (by decide) rfl rfl ?_
          refine e_aload_n dX9_type_48 rfl rfl ?_
          refine e_iload dX9_type_49 rfl ?_
          refine e_if_ge (tgt := 58) dX9_type_51 (by decide) (by omega) (fun c51 => ?_) (fun c51 => ?_)
          · skip
            refine e_aload_n dX9_type_58 rfl rfl ?_
            refine m_arr 17 dX9_type_59 flX9_50 rfl hM (by decide) ?_
            refine e_iload_n dX9_type_62 rfl rfl ?_
            refine m_ld dX9_type_63 hM (by decide) rfl (by omega) (by simp only [mL]; omega) (by (try simp (disch := omega) only [up_f, up_i, up_eq, tkO_16, tkO_f]); rfl) (fun r63 => ?_)
            refine e_bipush dX9_type_64 (by decide) ?_
            refine e_icmp_ne (tgt := 73) dX9_type_66 (by decide) (by omega) (by omega) (fun c66 => ?_) (fun c66 => ?_)
            · skip
              refine e_iconst dX9_type_73 ?_
              refine e_callV (As := [zI _]) (cb := 10) dX9_type_74 moX9_fails mvX9_fails mlX9_135 (by decide) rfl hM.1.1 rfl (Nat.le_of_ble_eq_true rfl) ⟨by decide, by decide, by decide, by decide⟩ (c_X9_fails hl hM.1 _ (by first | omega | exact b2_in)) (fun E h1 q => by cases q.1) (fun v h1 q => ?_)
              obtain ⟨e1, e2⟩ := q; cases e1; have ht := thr e2; have hM := MM_thr hM e2
              refine e_if_eq (tgt := 82) dX9_type_77 (by decide) b2_in (fun c77 => ?_) (fun c77 => ?_)
              · skip
                try simp only [b2_0, b2_n0] at c77
                refine e_aload_n dX9_type_82 rfl rfl ?_
                refine m_arr 9 dX9_type_83 flX9_25 rfl hM (by decide) ?_
                refine e_iload dX9_type_86 rfl ?_
                have w1 := hI (S 35 c) (topOf S (S 35 c)) (by omega)
                obtain ⟨w1, w2, w3, w4, w5, w6, w7, w8, w9, w10⟩ := w1
                have wa := area_le w5 w6 w7 w8
                refine m_ld dX9_type_88 hM (by decide) rfl (by omega) (by simp only [mL]; omega) (by (try simp (disch := omega) only [up_f, up_i, up_eq, tkO_16, tkO_f]); rfl) (fun r88 => ?_)
                refine e_istore dX9_type_89 (by decide) rfl rfl ?_
                refine e_bipush dX9_type_91 (by decide) ?_
                refine e_iload_n dX9_type_93 rfl rfl ?_
                refine e_imul dX9_type_94 ?_
                refine e_istore dX9_type_95 (by decide) rfl rfl ?_
                have lp97 : ∀ (d : Nat) (i v : Int), (S 17 (S 35 c) - i).toNat < d → 0 ≤ i → i ≤ S 17 (S 35 c) → v = S 9 (topOf S (S 35 c)) + sg (fun k => b2 (S 18 (20 * S 35 c + k) = topOf S (S 35 c))) i.toNat → AW l MX9_type (QM S h (if ¬ isC S c then 1 else if t < 97 ∨ 122 < t then 2 else if topOf S (S 35 c) < 0 then 3 else if S 17 (S 35 c) = 20 then 4 else 0) (zI 0) (zI (S 17 (S 35 c) + 1)) (typS S c t)) 0 0 97 [zR (some 99), zI c, zI t, zI (S 35 c), zI (topOf S (S 35 c)), zI v, zI (20 * S 35 c + i)] [] h1 := by
                  intro d
                  induction d with
                  | zero => intro i v hd i0 i1 hv; exact absurd hd (by omega)
                  | succ d ih =>
                    have ih97 := ih
                    intro i v hd i0 i1 hv
                    have cc := sg_in1 (f := fun k => b2 (S 18 (20 * S 35 c + k) = topOf S (S 35 c))) (fun _ _ => b2_le) i i0
                    refine e_iload dX9_type_97 rfl ?_
                    refine e_bipush dX9_type_99 (by decide) ?_
                    refine e_iload_n dX9_type_101 rfl rfl ?_
                    refine e_imul dX9_type_102 ?_
                    refine e_aload_n dX9_type_103 rfl rfl ?_
                    refine m_arr 17 dX9_type_104 flX9_50 rfl hM (by decide) ?_
                    refine e_iload_n dX9_type_107 rfl rfl ?_
                    refine m_ld dX9_type_108 hM (by decide) rfl (by omega) (by simp only [mL]; omega) (by (try simp (disch := omega) only [up_f, up_i, up_eq, tkO_16, tkO_f]); rfl) (fun r108 => ?_)
                    refine e_iadd dX9_type_109 ?_
                    refine e_icmp_ge (tgt := 141) dX9_type_110 (by decide) (by omega) (by omega) (fun c110 => ?_) (fun c110 => ?_)
                    · skip
                      refine e_bipush dX9_type_141 (by decide) ?_
                      refine e_iload_n dX9_type_143 rfl rfl ?_
                      refine e_imul dX9_type_144 ?_
                      refine e_aload_n dX9_type_145 rfl rfl ?_
                      refine m_arr 17 dX9_type_146 flX9_50 rfl hM (by decide) ?_
                      refine e_iload_n dX9_type_149 rfl rfl ?_
                      refine m_ld dX9_type_150 hM (by decide) rfl (by omega) (by simp only [mL]; omega) (by (try simp (disch := omega) only [up_f, up_i, up_eq, tkO_16, tkO_f]); rfl) (fun r150 => ?_)
                      refine e_iadd dX9_type_151 ?_
                      refine e_istore dX9_type_152 (by decide) rfl rfl ?_
                      refine e_aload_n dX9_type_154 rfl rfl ?_
                      refine m_arr 18 dX9_type_155 flX9_53 rfl hM (by decide) ?_
                      refine e_iload dX9_type_158 rfl ?_
                      refine e_iload dX9_type_160 rfl ?_
                      refine m_st dX9_type_162 hM (by decide) rfl (by omega) (by simp only [mL]; omega) (by omega) (fun hM => ?_)
                      refine e_aload_n dX9_type_163 rfl rfl ?_
                      refine m_arr 19 dX9_type_164 flX9_56 rfl hM (by decide) ?_
                      refine e_iload dX9_type_167 rfl ?_
                      refine e_bipush dX9_type_169 (by decide) ?_
                      refine e_iload_n dX9_type_171 rfl rfl ?_
                      refine e_iadd dX9_type_172 ?_
                      refine e_bipush dX9_type_173 (by decide) ?_
                      refine e_isub dX9_type_175 ?_
                      refine m_st dX9_type_176 hM (by decide) rfl (by omega) (by simp only [mL]; omega) (by omega) (fun hM => ?_)
                      refine e_aload_n dX9_type_177 rfl rfl ?_
                      refine m_arr 20 dX9_type_178 flX9_59 rfl hM (by decide) ?_
                      refine e_iload dX9_type_181 rfl ?_
                      refine e_iload dX9_type_183 rfl ?_
                      refine e_aload_n dX9_type_185 rfl rfl ?_
                      refine m_arr 7 dX9_type_186 flX9_19 rfl hM (by decide) ?_
                      refine e_iload dX9_type_189 rfl ?_
                      refine m_ld dX9_type_191 hM (by decide) rfl (by omega) (by simp only [mL]; omega) (by (try simp (disch := omega) only [up_f, up_i, up_eq, tkO_16, tkO_f]); rfl) (fun r191 => ?_)
                      refine e_aload_n dX9_type_192 rfl rfl ?_
                      refine m_arr 8 dX9_type_193 flX9_22 rfl hM (by decide) ?_
                      refine e_iload dX9_type_196 rfl ?_
                      refine m_ld dX9_type_198 hM (by decide) rfl (by omega) (by simp only [mL]; omega) (by (try simp (disch := omega) only [up_f, up_i, up_eq, tkO_16, tkO_f]); rfl) (fun r198 => ?_)
                      refine e_imul dX9_type_199 ?_
                      refine e_irem dX9_type_200 (by omega) (by omega) (by omega) (by omega) ?_
                      have hve : v = S 9 (topOf S (S 35 c)) + keysW S (S 35 c) (topOf S (S 35 c)) := by rw [hv, show i = S 17 (S 35 c) by omega]; rfl
                      rw [hve]
                      have gm := Int.emod_lt_of_pos (S 9 (topOf S (S 35 c)) + keysW S (S 35 c) (topOf S (S 35 c))) (b := S 7 (topOf S (S 35 c)) * S 8 (topOf S (S 35 c))) (by omega)
                      have gn := Int.emod_nonneg (S 9 (topOf S (S 35 c)) + keysW S (S 35 c) (topOf S (S 35 c))) (b := S 7 (topOf S (S 35 c)) * S 8 (topOf S (S 35 c))) (by omega)
                      refine m_st dX9_type_201 hM (by decide) rfl (by omega) (by simp only [mL]; omega) (by omega) (fun hM => ?_)
                      refine e_aload_n dX9_type_202 rfl rfl ?_
                      refine m_arr 21 dX9_type_203 flX9_62 rfl hM (by decide) ?_
                      refine e_iload dX9_type_206 rfl ?_
                      refine e_iload_n dX9_type_208 rfl rfl ?_
                      refine m_st dX9_type_209 hM (by decide) rfl (by omega) (by simp only [mL]; omega) (by omega) (fun hM => ?_)
                      refine e_aload_n dX9_type_210 rfl rfl ?_
                      refine m_arr 17 dX9_type_211 flX9_50 rfl hM (by decide) ?_
                      refine e_iload_n dX9_type_214 rfl rfl ?_
                      refine e_dup2 dX9_type_215 rfl rfl ?_
                      refine m_ld dX9_type_216 hM (by decide) rfl (by omega) (by simp only [mL]; omega) (by (try simp (disch := omega) only [up_f, up_i, up_eq, tkO_16, tkO_f]); rfl) (fun r216 => ?_)
                      refine e_iconst dX9_type_217 ?_
                      refine e_iadd dX9_type_218 ?_
                      refine m_st dX9_type_219 hM (by decide) rfl (by omega) (by simp only [mL]; omega) (by omega) (fun hM => ?_)
                      refine e_aload_n dX9_type_220 rfl rfl ?_
                      refine m_arr 17 dX9_type_221 flX9_50 rfl hM (by decide) ?_
                      refine e_iload_n dX9_type_224 rfl rfl ?_
                      refine m_ld dX9_type_225 hM (by decide) rfl (by omega) (by simp only [mL]; omega) (by (try simp (disch := omega) only [up_f, up_i, up_eq, tkO_16, tkO_f]); rfl) (fun r225 => ?_)
                      refine e_iret dX9_type_226 rfl trivial (by decide) (by decide) ?_
                      exact QM_ok ht (by first | (rw [if_neg (by omega)]; done) | (rw [if_neg (by omega), if_neg (by omega)]; done) | (rw [if_neg (by omega), if_neg (by omega), if_neg (by omega)]; done) | (rw [if_neg (by omega), if_neg (by omega), if_neg (by omega), if_neg (by omega)]; done)) rfl hM
                    · skip
                      refine e_iload dX9_type_113 rfl ?_
                      refine e_aload_n dX9_type_115 rfl rfl ?_
                      refine m_arr 18 dX9_type_116 flX9_53 rfl hM (by decide) ?_
                      refine e_iload dX9_type_119 rfl ?_
                      refine m_ld dX9_type_121 hM (by decide) rfl (by omega) (by simp only [mL]; omega) (by (try simp (disch := omega) only [up_f, up_i, up_eq, tkO_16, tkO_f]); rfl) (fun r121 => ?_)
                      refine e_iload dX9_type_122 rfl ?_
                      refine e_icmp_ne (tgt := 131) dX9_type_124 (by decide) (by omega) (by omega) (fun c124 => ?_) (fun c124 => ?_)
                      · skip
                        refine e_iconst dX9_type_131 ?_
                        refine e_iadd dX9_type_132 ?_
                        refine e_istore dX9_type_133 (by decide) rfl rfl ?_
                        refine e_iinc dX9_type_135 (by decide) rfl rfl rfl rfl ?_
                        refine e_goto (tgt := 97) dX9_type_138 (by decide) ?_
                        rw [show (20 * S 35 c + i + 1 : Int) = 20 * S 35 c + (i + 1) by omega]
                        exact ih _ _ (by omega) (by omega) (by omega) (by rw [sg_s i0, hv]; (first | rw [b2_t (by omega)] | rw [b2_f (by omega)]); omega)
                      · skip
                        refine e_iconst dX9_type_127 ?_
                        refine e_goto (tgt := 132) dX9_type_128 (by decide) ?_
                        refine e_iadd dX9_type_132 ?_
                        refine e_istore dX9_type_133 (by decide) rfl rfl ?_
                        refine e_iinc dX9_type_135 (by decide) rfl rfl rfl rfl ?_
                        refine e_goto (tgt := 97) dX9_type_138 (by decide) ?_
                        rw [show (20 * S 35 c + i + 1 : Int) = 20 * S 35 c + (i + 1) by omega]
                        exact ih _ _ (by omega) (by omega) (by omega) (by rw [sg_s i0, hv]; (first | rw [b2_t (by omega)] | rw [b2_f (by omega)]); omega)
                have hl0 := lp97 21 0 _ (by omega) (by omega) (by omega) (Int.add_zero _).symm
                rw [Int.add_zero] at hl0
                exact hl0
              · skip
                try simp only [b2_0, b2_n0] at c77
                exfalso; omega
            · skip
              refine e_iconst dX9_type_69 ?_
              refine e_goto (tgt := 74) dX9_type_70 (by decide) ?_
              refine e_callV (As := [zI _]) (cb := 10) dX9_type_74 moX9_fails mvX9_fails mlX9_135 (by decide) rfl hM.1.1 rfl (Nat.le_of_ble_eq_true rfl) ⟨by decide, by decide, by decide, by decide⟩ (c_X9_fails hl hM.1 _ (by first | omega | exact b2_in)) (fun E h1 q => by cases q.1) (fun v h1 q => ?_)
              obtain ⟨e1, e2⟩ := q; cases e1; have ht := thr e2; have hM := MM_thr hM e2
              refine e_if_eq (tgt := 82) dX9_type_77 (by decide) b2_in (fun c77 => ?_) (fun c77 => ?_)
              · skip
                try simp only [b2_0, b2_n0] at c77
                exfalso; omega
              · skip
                try simp only [b2_0, b2_n0] at c77
                refine e_iconst dX9_type_80 ?_
                refine e_iret dX9_type_81 rfl trivial (by decide) (by decide) ?_
                exact QM_no ht (by first | (rw [if_pos (by omega)]; done) | (rw [if_neg (by omega), if_pos (by omega)]; done) | (rw [if_neg (by omega), if_neg (by omega), if_pos (by omega)]; done) | (rw [if_neg (by omega), if_neg (by omega), if_neg (by omega), if_pos (by omega)]; done)) (by decide) hM
          · skip
            refine e_iconst dX9_type_54 ?_
            refine e_goto (tgt := 74) dX9_type_55 (by decide) ?_
            refine e_callV (As := [zI _]) (cb := 10) dX9_type_74 moX9_fails mvX9_fails mlX9_135 (by decide) rfl hM.1.1 rfl (Nat.le_of_ble_eq_true rfl) ⟨by decide, by decide, by decide, by decide⟩ (c_X9_fails hl hM.1 _ (by first | omega | exact b2_in)) (fun E h1 q => by cases q.1) (fun v h1 q => ?_)
            obtain ⟨e1, e2⟩ := q; cases e1; have ht := thr e2; have hM := MM_thr hM e2
            refine e_if_eq (tgt := 82) dX9_type_77 (by decide) b2_in (fun c77 => ?_) (fun c77 => ?_)
            · skip
              try simp only [b2_0, b2_n0] at c77
              exfalso; omega
            · skip
              try simp only [b2_0, b2_n0] at c77
              refine e_iconst dX9_type_80 ?_
              refine e_iret dX9_type_81 rfl trivial (by decide) (by decide) ?_
              exact QM_no ht (by first | (rw [if_pos (by omega)]; done) | (rw [if_neg (by omega), if_pos (by omega)]; done) | (rw [if_neg (by omega), if_neg (by omega), if_pos (by omega)]; done) | (rw [if_neg (by omega), if_neg (by omega), if_neg (by omega), if_pos (by omega)]; done)) (by decide) hM
        · skip
          try simp only [b2_0, b2_n0] at c29
          exfalso; omega
      · skip
        refine e_iconst dX9_type_21 ?_
        refine e_goto (tgt := 26) dX9_type_22 (by decide) ?_
        refine e_callV (As := [zI _]) (cb := 10) dX9_type_26 moX9_fails mvX9_fails mlX9_135 (by decide) rfl hM.1.1 rfl (Nat.le_of_ble_eq_true rfl) ⟨by decide, by decide, by decide, by decide⟩ (c_X9_fails hl hM.1 _ (by first | omega | exact b2_in)) (fun E h1 q => by cases q.1) (fun v h1 q => ?_)
        obtain ⟨e1, e2⟩ := q; cases e1; have ht := thr e2; have hM := MM_thr hM e2
        refine e_if_eq (tgt := 34) dX9_type_29 (by decide) b2_in (fun c29 => ?_) (fun c29 => ?_)
        · skip
          try simp only [b2_0, b2_n0] at c29
          exfalso; omega
        · skip
          try simp only [b2_0, b2_n0] at c29
          refine e_iconst dX9_type_32 ?_
          refine e_iret dX9_type_33 rfl trivial (by decide) (by decide) ?_
          first | exact QM_no (ht.trans (b2_t (by omega))) (by first | (rw [if_pos (by omega)]; done) | (rw [if_neg (by omega), if_pos (by omega)]; done) | (rw [if_neg (by omega), if_neg (by omega), if_pos (by omega)]; done) | (rw [if_neg (by omega), if_neg (by omega), if_neg (by omega), if_pos (by omega)]; done)) (by decide) hM | exact QM_no ht (by first | (rw [if_pos (by omega)]; done) | (rw [if_neg (by omega), if_pos (by omega)]; done) | (rw [if_neg (by omega), if_neg (by omega), if_pos (by omega)]; done) | (rw [if_neg (by omega), if_neg (by omega), if_neg (by omega), if_pos (by omega)]; done)) (by decide) hM
