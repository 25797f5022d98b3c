set_option maxHeartbeats 4000000 in
set_option maxRecDepth 100000 in
theorem c_X9_in {l : Launch} (hl : l.stackTraces = false) {h : zH} (v a b : Int) (hv : zin v) (ha : zin a) (hb : zin b) : zC l MX9_in [zI v, zI a, zI b] h (fun o h' => o = .inl (some (zI (b2 (a ≤ v ∧ v ≤ b)))) ∧ h' = h) := by
  refine zC_of hl rfl rfl (by decide) rfl rfl (Nat.le_of_ble_eq_true rfl) ?_
  refine e_iload_n dX9_in_0 rfl rfl ?_
  refine e_iload_n dX9_in_1 rfl rfl ?_
  refine e_icmp_lt (tgt := 14) dX9_in_2 (by decide) (by omega) (by omega) (fun c2 => ?_) (fun c2 => ?_)
  · skip
    refine e_iconst dX9_in_14 ?_
    refine e_iret dX9_in_15 rfl (by first | exact Or.inl rfl | exact Or.inr rfl | assumption | exact b2_01) (by decide) (by decide) ?_
    exact ⟨zqe (by first | exact (b2_t (by omega)).symm | exact (b2_f (by omega)).symm), rfl⟩
  · skip
    refine e_iload_n dX9_in_5 rfl rfl ?_
    refine e_iload_n dX9_in_6 rfl rfl ?_
    refine e_icmp_gt (tgt := 14) dX9_in_7 (by decide) (by omega) (by omega) (fun c7 => ?_) (fun c7 => ?_)
    · skip
      refine e_iconst dX9_in_14 ?_
      refine e_iret dX9_in_15 rfl (by first | exact Or.inl rfl | exact Or.inr rfl | assumption | exact b2_01) (by decide) (by decide) ?_
      exact ⟨zqe (by first | exact (b2_t (by omega)).symm | exact (b2_f (by omega)).symm), rfl⟩
    · skip
      refine e_iconst dX9_in_10 ?_
      refine e_goto (tgt := 15) dX9_in_11 (by decide) ?_
      refine e_iret dX9_in_15 rfl (by first | exact Or.inl rfl | exact Or.inr rfl | assumption | exact b2_01) (by decide) (by decide) ?_
      exact ⟨zqe (by first | exact (b2_t (by omega)).symm | exact (b2_f (by omega)).symm), rfl⟩
set_option maxHeartbeats 4000000 in
set_option maxRecDepth 100000 in
theorem c_X9_fails {l : Launch} (hl : l.stackTraces = false) {S : S9} {h : zH} (hM : RM S h) (w : Int) (hw : zin w) : zC l MX9_fails [zR (some 99), zI w] h (fun o h' => o = .inl (some (zI (b2 (0 < w)))) ∧ h' = sf h 1000 99 w) := by
  refine zC_of hl rfl rfl (by decide) rfl rfl (Nat.le_of_ble_eq_true rfl) ?_
  have hM : MM S h h := MM_rf hM
  refine e_aload_n dX9_fails_0 rfl rfl ?_
  refine e_iload_n dX9_fails_1 rfl rfl ?_
  refine m_putX 0 dX9_fails_2 flX9_128 (Or.inl rfl) trivial hM (by unfold mX; omega) (by omega) (fun hM => ?_)
  refine e_iload_n dX9_fails_5 rfl rfl ?_
  refine e_if_le (tgt := 13) dX9_fails_6 (by decide) (by omega) (fun c6 => ?_) (fun c6 => ?_)
  · skip
    refine e_iconst dX9_fails_13 ?_
    refine e_iret dX9_fails_14 rfl (by first | exact Or.inl rfl | exact Or.inr rfl | assumption | exact b2_01) (by decide) (by decide) ?_
    exact ⟨zqe (by first | exact (b2_t (by omega)).symm | exact (b2_f (by omega)).symm), rfl⟩
  · skip
    refine e_iconst dX9_fails_9 ?_
    refine e_goto (tgt := 14) dX9_fails_10 (by decide) ?_
    refine e_iret dX9_fails_14 rfl (by first | exact Or.inl rfl | exact Or.inr rfl | assumption | exact b2_01) (by decide) (by decide) ?_
    exact ⟨zqe (by first | exact (b2_t (by omega)).symm | exact (b2_f (by omega)).symm), rfl⟩
set_option maxHeartbeats 4000000 in
set_option maxRecDepth 100000 in
theorem c_X9_isSession {l : Launch} (hl : l.stackTraces = false) {S : S9} {h : zH} (hM : RM S h) (hN : IN S) (s : Int) (hs : zin s) : zC l MX9_isSession [zR (some 99), zI s] h (fun o h' => o = .inl (some (zI (b2 (isS S s)))) ∧ h' = h) := by
  refine zC_of hl rfl rfl (by decide) rfl rfl (Nat.le_of_ble_eq_true rfl) ?_
  have hM : MM S h h := MM_rf hM
  obtain ⟨n1, n2, -⟩ := hN
  refine e_iload_n dX9_isSession_0 rfl rfl ?_
  refine e_iconst dX9_isSession_1 ?_
  refine e_aload_n dX9_isSession_2 rfl rfl ?_
  refine m_get 1 dX9_isSession_3 flX9_132 rfl hM (by unfold mS; omega) rfl (fun r3 => ?_)
  refine e_iconst dX9_isSession_6 ?_
  refine e_isub dX9_isSession_7 ?_
  refine e_callS (As := [zI _, zI _, zI _]) dX9_isSession_8 moX9_in msX9_in mlX9_139 rfl (Nat.le_of_ble_eq_true rfl) ⟨by decide, by decide, by decide, by decide⟩ (c_X9_in hl _ _ _ (by omega) (by omega) (by omega)) (fun E h1 q => by cases q.1) (fun v h9 q => ?_)
  obtain ⟨e1, e2⟩ := q; cases e1; rw [e2]; clear e2 h9
  refine e_iret dX9_isSession_11 rfl (by first | exact Or.inl rfl | exact Or.inr rfl | assumption | exact b2_01) (by decide) (by decide) ?_
  exact ⟨zqe (by unfold b2; congr 1; exact propext (by omega)), rfl⟩
set_option maxHeartbeats 4000000 in
set_option maxRecDepth 100000 in
theorem c_X9_failsSession {l : Launch} (hl : l.stackTraces = false) {S : S9} {h : zH} (hM : RM S h) (hN : IN S) (s : Int) (hs : zin s) : zC l MX9_failsSession [zR (some 99), zI s] h (fun o h' => o = .inl (some (zI (b2 (¬ isS S s)))) ∧ h' = sf h 1000 99 (b2 (¬ isS S s))) := by
  refine zC_of hl rfl rfl (by decide) rfl rfl (Nat.le_of_ble_eq_true rfl) ?_
  have hM : MM S h h := MM_rf hM
  refine e_aload_n dX9_failsSession_0 rfl rfl ?_
  refine e_aload_n dX9_failsSession_1 rfl rfl ?_
  refine e_iload_n dX9_failsSession_2 rfl rfl ?_
  refine e_callV (As := [zI _]) (cb := 10) dX9_failsSession_3 moX9_isSession mvX9_isSession mlX9_143 (by decide) rfl hM.1.1 rfl (Nat.le_of_ble_eq_true rfl) ⟨by decide, by decide, by decide, by decide⟩ (c_X9_isSession hl hM.1 hN _ hs) (fun E h1 q => by cases q.1) (fun v h9 q => ?_)
  obtain ⟨e1, e2⟩ := q; cases e1; rw [e2]; clear e2 h9
  refine e_if_eq (tgt := 13) dX9_failsSession_6 (by decide) b2_in (fun c6 => ?_) (fun c6 => ?_)
  · skip
    try simp only [b2_0, b2_n0] at c6
    refine e_iconst dX9_failsSession_13 ?_
    refine e_callV (As := [zI _]) (cb := 10) dX9_failsSession_14 moX9_fails mvX9_fails mlX9_135 (by decide) rfl hM.1.1 rfl (Nat.le_of_ble_eq_true rfl) ⟨by decide, by decide, by decide, by decide⟩ (c_X9_fails hl hM.1 _ (by first | omega | exact b2_in)) (fun E h1 q => by cases q.1) (fun v h1 q => ?_)
    obtain ⟨e1, e2⟩ := q; cases e1; have ht := thr e2; have hM := MM_thr hM e2
    refine e_iret dX9_failsSession_17 rfl (by first | exact Or.inl rfl | exact Or.inr rfl | assumption | exact b2_01) (by decide) (by decide) ?_
    first | exact ⟨zqe (by rw [b2_t (p := ¬ isS S s) (by omega)]; rfl), by rw [b2_t (p := ¬ isS S s) (by omega)]; exact e2⟩ | exact ⟨zqe (by rw [b2_f (p := ¬ isS S s) (by omega)]; rfl), by rw [b2_f (p := ¬ isS S s) (by omega)]; exact e2⟩
  · skip
    try simp only [b2_0, b2_n0] at c6
    refine e_iconst dX9_failsSession_9 ?_
    refine e_goto (tgt := 14) dX9_failsSession_10 (by decide) ?_
    refine e_callV (As := [zI _]) (cb := 10) dX9_failsSession_14 moX9_fails mvX9_fails mlX9_135 (by decide) rfl hM.1.1 rfl (Nat.le_of_ble_eq_true rfl) ⟨by decide, by decide, by decide, by decide⟩ (c_X9_fails hl hM.1 _ (by first | omega | exact b2_in)) (fun E h1 q => by cases q.1) (fun v h1 q => ?_)
    obtain ⟨e1, e2⟩ := q; cases e1; have ht := thr e2; have hM := MM_thr hM e2
    refine e_iret dX9_failsSession_17 rfl (by first | exact Or.inl rfl | exact Or.inr rfl | assumption | exact b2_01) (by decide) (by decide) ?_
    first | exact ⟨zqe (by rw [b2_t (p := ¬ isS S s) (by omega)]; rfl), by rw [b2_t (p := ¬ isS S s) (by omega)]; exact e2⟩ | exact ⟨zqe (by rw [b2_f (p := ¬ isS S s) (by omega)]; rfl), by rw [b2_f (p := ¬ isS S s) (by omega)]; exact e2⟩
set_option maxHeartbeats 4000000 in
set_option maxRecDepth 100000 in
theorem c_X9_failsWindow {l : Launch} (hl : l.stackTraces = false) {S : S9} {h : zH} (hM : RM S h) (hN : IN S) (s w : Int) (hs : zin s) (hw : zin w) : zC l MX9_failsWindow [zR (some 99), zI s, zI w] h (fun o h' => o = .inl (some (zI (b2 (¬ isWn S s w)))) ∧ h' = sf h 1000 99 (b2 (¬ isWn S s w))) := by
  refine zC_of hl rfl rfl (by decide) rfl rfl (Nat.le_of_ble_eq_true rfl) ?_
  have hM : MM S h h := MM_rf hM
  have hN2 := hN
  obtain ⟨n1, n2, -, -, n5⟩ := hN2
  refine e_aload_n dX9_failsWindow_0 rfl rfl ?_
  refine e_aload_n dX9_failsWindow_1 rfl rfl ?_
  refine e_iload_n dX9_failsWindow_2 rfl rfl ?_
  refine e_callV (As := [zI _]) (cb := 10) dX9_failsWindow_3 moX9_isSession mvX9_isSession mlX9_143 (by decide) rfl hM.1.1 rfl (Nat.le_of_ble_eq_true rfl) ⟨by decide, by decide, by decide, by decide⟩ (c_X9_isSession hl hM.1 hN _ hs) (fun E h1 q => by cases q.1) (fun v h9 q => ?_)
  obtain ⟨e1, e2⟩ := q; cases e1; rw [e2]; clear e2 h9
  refine e_if_eq (tgt := 43) dX9_failsWindow_6 (by decide) b2_in (fun c6 => ?_) (fun c6 => ?_)
  · skip
    try simp only [b2_0, b2_n0] at c6
    refine e_iconst dX9_failsWindow_43 ?_
    refine e_callV (As := [zI _]) (cb := 10) dX9_failsWindow_44 moX9_fails mvX9_fails mlX9_135 (by decide) rfl hM.1.1 rfl (Nat.le_of_ble_eq_true rfl) ⟨by decide, by decide, by decide, by decide⟩ (c_X9_fails hl hM.1 _ (by first | omega | exact b2_in)) (fun E h1 q => by cases q.1) (fun v h1 q => ?_)
    obtain ⟨e1, e2⟩ := q; cases e1; have ht := thr e2; have hM := MM_thr hM e2
    refine e_iret dX9_failsWindow_47 rfl (by first | exact Or.inl rfl | exact Or.inr rfl | assumption | exact b2_01) (by decide) (by decide) ?_
    first | exact ⟨zqe (by rw [b2_t (p := ¬ isWn S s w) (by omega)]; rfl), by rw [b2_t (p := ¬ isWn S s w) (by omega)]; exact e2⟩ | exact ⟨zqe (by rw [b2_f (p := ¬ isWn S s w) (by omega)]; rfl), by rw [b2_f (p := ¬ isWn S s w) (by omega)]; exact e2⟩
  · skip
    try simp only [b2_0, b2_n0] at c6
    have n6 := n5 s (by omega) (by omega)
    refine e_iload_n dX9_failsWindow_9 rfl rfl ?_
    refine e_iconst dX9_failsWindow_10 ?_
    refine e_aload_n dX9_failsWindow_11 rfl rfl ?_
    refine m_arr 4 dX9_failsWindow_12 flX9_7 rfl hM (by decide) ?_
    refine e_iload_n dX9_failsWindow_15 rfl rfl ?_
    refine m_ld dX9_failsWindow_16 hM (by decide) rfl (by omega) (by simp only [mL]; omega) rfl (fun r16 => ?_)
    refine e_iconst dX9_failsWindow_17 ?_
    refine e_isub dX9_failsWindow_18 ?_
    refine e_callS (As := [zI _, zI _, zI _]) dX9_failsWindow_19 moX9_in msX9_in mlX9_139 rfl (Nat.le_of_ble_eq_true rfl) ⟨by decide, by decide, by decide, by decide⟩ (c_X9_in hl _ _ _ (by omega) (by omega) (by omega)) (fun E h1 q => by cases q.1) (fun v h9 q => ?_)
    obtain ⟨e1, e2⟩ := q; cases e1; rw [e2]; clear e2 h9
    refine e_if_eq (tgt := 43) dX9_failsWindow_22 (by decide) b2_in (fun c22 => ?_) (fun c22 => ?_)
    · skip
      try simp only [b2_0, b2_n0] at c22
      refine e_iconst dX9_failsWindow_43 ?_
      refine e_callV (As := [zI _]) (cb := 10) dX9_failsWindow_44 moX9_fails mvX9_fails mlX9_135 (by decide) rfl hM.1.1 rfl (Nat.le_of_ble_eq_true rfl) ⟨by decide, by decide, by decide, by decide⟩ (c_X9_fails hl hM.1 _ (by first | omega | exact b2_in)) (fun E h1 q => by cases q.1) (fun v h1 q => ?_)
      obtain ⟨e1, e2⟩ := q; cases e1; have ht := thr e2; have hM := MM_thr hM e2
      refine e_iret dX9_failsWindow_47 rfl (by first | exact Or.inl rfl | exact Or.inr rfl | assumption | exact b2_01) (by decide) (by decide) ?_
      first | exact ⟨zqe (by rw [b2_t (p := ¬ isWn S s w) (by omega)]; rfl), by rw [b2_t (p := ¬ isWn S s w) (by omega)]; exact e2⟩ | exact ⟨zqe (by rw [b2_f (p := ¬ isWn S s w) (by omega)]; rfl), by rw [b2_f (p := ¬ isWn S s w) (by omega)]; exact e2⟩
    · skip
      try simp only [b2_0, b2_n0] at c22
      refine e_aload_n dX9_failsWindow_25 rfl rfl ?_
      refine m_arr 10 dX9_failsWindow_26 flX9_28 rfl hM (by decide) ?_
      refine e_bipush dX9_failsWindow_29 (by decide) ?_
      refine e_iload_n dX9_failsWindow_31 rfl rfl ?_
      refine e_imul dX9_failsWindow_32 ?_
      refine e_iload_n dX9_failsWindow_33 rfl rfl ?_
      refine e_iadd dX9_failsWindow_34 ?_
      refine m_ldz dX9_failsWindow_35 hM (by decide) rfl (by omega) (by simp only [mL]; omega) rfl (fun r35 => ?_)
      refine e_if_eq (tgt := 43) dX9_failsWindow_36 (by decide) (by omega) (fun c36 => ?_) (fun c36 => ?_)
      · skip
        try simp only [b2_0, b2_n0] at c36
        refine e_iconst dX9_failsWindow_43 ?_
        refine e_callV (As := [zI _]) (cb := 10) dX9_failsWindow_44 moX9_fails mvX9_fails mlX9_135 (by decide) rfl hM.1.1 rfl (Nat.le_of_ble_eq_true rfl) ⟨by decide, by decide, by decide, by decide⟩ (c_X9_fails hl hM.1 _ (by first | omega | exact b2_in)) (fun E h1 q => by cases q.1) (fun v h1 q => ?_)
        obtain ⟨e1, e2⟩ := q; cases e1; have ht := thr e2; have hM := MM_thr hM e2
        refine e_iret dX9_failsWindow_47 rfl (by first | exact Or.inl rfl | exact Or.inr rfl | assumption | exact b2_01) (by decide) (by decide) ?_
        first | exact ⟨zqe (by rw [b2_t (p := ¬ isWn S s w) (by omega)]; rfl), by rw [b2_t (p := ¬ isWn S s w) (by omega)]; exact e2⟩ | exact ⟨zqe (by rw [b2_f (p := ¬ isWn S s w) (by omega)]; rfl), by rw [b2_f (p := ¬ isWn S s w) (by omega)]; exact e2⟩
      · skip
        try simp only [b2_0, b2_n0] at c36
        refine e_iconst dX9_failsWindow_39 ?_
        refine e_goto (tgt := 44) dX9_failsWindow_40 (by decide) ?_
        refine e_callV (As := [zI _]) (cb := 10) dX9_failsWindow_44 moX9_fails mvX9_fails mlX9_135 (by decide) rfl hM.1.1 rfl (Nat.le_of_ble_eq_true rfl) ⟨by decide, by decide, by decide, by decide⟩ (c_X9_fails hl hM.1 _ (by first | omega | exact b2_in)) (fun E h1 q => by cases q.1) (fun v h1 q => ?_)
        obtain ⟨e1, e2⟩ := q; cases e1; have ht := thr e2; have hM := MM_thr hM e2
        refine e_iret dX9_failsWindow_47 rfl (by first | exact Or.inl rfl | exact Or.inr rfl | assumption | exact b2_01) (by decide) (by decide) ?_
        first | exact ⟨zqe (by rw [b2_t (p := ¬ isWn S s w) (by omega)]; rfl), by rw [b2_t (p := ¬ isWn S s w) (by omega)]; exact e2⟩ | exact ⟨zqe (by rw [b2_f (p := ¬ isWn S s w) (by omega)]; rfl), by rw [b2_f (p := ¬ isWn S s w) (by omega)]; exact e2⟩
set_option maxHeartbeats 4000000 in
set_option maxRecDepth 100000 in
theorem c_X9_cellAt {l : Launch} (hl : l.stackTraces = false) {S : S9} {h : zH} (hM : RM S h) (w p : Int) (hw0 : 0 ≤ w) (hw1 : w < 24) (hW : IW1 S w) (hp0 : 0 ≤ p) (hp1 : p < 96) : zC l MX9_cellAt [zR (some 99), zI w, zI p] h (fun o h' => o = .inl (some (zI (cellAt S w p))) ∧ h' = h) := by
  refine zC_of hl rfl rfl (by decide) rfl rfl (Nat.le_of_ble_eq_true rfl) ?_
  have hM : MM S h h := MM_rf hM
  have hW2 := hW
  obtain ⟨w1, w2, w3, w4, w5, w6, w7, w8, w9, w10⟩ := hW2
  refine e_iload_n dX9_cellAt_0 rfl rfl ?_
  refine e_bipush dX9_cellAt_1 (by decide) ?_
  refine e_irem dX9_cellAt_3 (by omega) (by omega) (by omega) (by omega) ?_
  refine e_aload_n dX9_cellAt_4 rfl rfl ?_
  refine m_arr 5 dX9_cellAt_5 flX9_13 rfl hM (by decide) ?_
  refine e_iload_n dX9_cellAt_8 rfl rfl ?_
  refine m_ld dX9_cellAt_9 hM (by decide) rfl (by omega) (by simp only [mL]; omega) rfl (fun r9 => ?_)
  refine e_isub dX9_cellAt_10 ?_
  refine e_istore_n dX9_cellAt_11 rfl (by decide) rfl rfl ?_
  refine e_iload_n dX9_cellAt_12 rfl rfl ?_
  refine e_bipush dX9_cellAt_13 (by decide) ?_
  refine e_idiv dX9_cellAt_15 (by omega) (by omega) (by omega) (by omega) ?_
  refine e_aload_n dX9_cellAt_16 rfl rfl ?_
  refine m_arr 6 dX9_cellAt_17 flX9_16 rfl hM (by decide) ?_
  refine e_iload_n dX9_cellAt_20 rfl rfl ?_
  refine m_ld dX9_cellAt_21 hM (by decide) rfl (by omega) (by simp only [mL]; omega) rfl (fun r21 => ?_)
  refine e_isub dX9_cellAt_22 ?_
  refine e_istore dX9_cellAt_23 (by decide) rfl rfl ?_
  refine e_iload_n dX9_cellAt_25 rfl rfl ?_
  refine e_iconst dX9_cellAt_26 ?_
  refine e_aload_n dX9_cellAt_27 rfl rfl ?_
  refine m_arr 7 dX9_cellAt_28 flX9_19 rfl hM (by decide) ?_
  refine e_iload_n dX9_cellAt_31 rfl rfl ?_
  refine m_ld dX9_cellAt_32 hM (by decide) rfl (by omega) (by simp only [mL]; omega) rfl (fun r32 => ?_)
  refine e_iconst dX9_cellAt_33 ?_
  refine e_isub dX9_cellAt_34 ?_
  refine e_callS (As := [zI _, zI _, zI _]) dX9_cellAt_35 moX9_in msX9_in mlX9_139 rfl (Nat.le_of_ble_eq_true rfl) ⟨by decide, by decide, by decide, by decide⟩ (c_X9_in hl _ _ _ (by omega) (by omega) (by omega)) (fun E h1 q => by cases q.1) (fun v h9 q => ?_)
  obtain ⟨e1, e2⟩ := q; cases e1; rw [e2]; clear e2 h9
  refine e_if_eq (tgt := 72) dX9_cellAt_38 (by decide) b2_in (fun c38 => ?_) (fun c38 => ?_)
  · skip
    try simp only [b2_0, b2_n0] at c38
    refine e_iconst dX9_cellAt_72 ?_
    refine e_iret dX9_cellAt_73 rfl trivial (by decide) (by decide) ?_
    exact ⟨zqe (by unfold cellAt; first | rw [if_pos (by omega)] | rw [if_neg (by omega)]), rfl⟩
  · skip
    try simp only [b2_0, b2_n0] at c38
    refine e_iload dX9_cellAt_41 rfl ?_
    refine e_iconst dX9_cellAt_43 ?_
    refine e_aload_n dX9_cellAt_44 rfl rfl ?_
    refine m_arr 8 dX9_cellAt_45 flX9_22 rfl hM (by decide) ?_
    refine e_iload_n dX9_cellAt_48 rfl rfl ?_
    refine m_ld dX9_cellAt_49 hM (by decide) rfl (by omega) (by simp only [mL]; omega) rfl (fun r49 => ?_)
    refine e_iconst dX9_cellAt_50 ?_
    refine e_isub dX9_cellAt_51 ?_
    refine e_callS (As := [zI _, zI _, zI _]) dX9_cellAt_52 moX9_in msX9_in mlX9_139 rfl (Nat.le_of_ble_eq_true rfl) ⟨by decide, by decide, by decide, by decide⟩ (c_X9_in hl _ _ _ (by omega) (by omega) (by omega)) (fun E h1 q => by cases q.1) (fun v h9 q => ?_)
    obtain ⟨e1, e2⟩ := q; cases e1; rw [e2]; clear e2 h9
    refine e_if_eq (tgt := 72) dX9_cellAt_55 (by decide) b2_in (fun c55 => ?_) (fun c55 => ?_)
    · skip
      try simp only [b2_0, b2_n0] at c55
      refine e_iconst dX9_cellAt_72 ?_
      refine e_iret dX9_cellAt_73 rfl trivial (by decide) (by decide) ?_
      exact ⟨zqe (by unfold cellAt; first | rw [if_pos (by omega)] | rw [if_neg (by omega)]), rfl⟩
    · skip
      try simp only [b2_0, b2_n0] at c55
      refine e_iload dX9_cellAt_58 rfl ?_
      refine e_aload_n dX9_cellAt_60 rfl rfl ?_
      refine m_arr 7 dX9_cellAt_61 flX9_19 rfl hM (by decide) ?_
      refine e_iload_n dX9_cellAt_64 rfl rfl ?_
      refine m_ld dX9_cellAt_65 hM (by decide) rfl (by omega) (by simp only [mL]; omega) rfl (fun r65 => ?_)
      refine e_imul dX9_cellAt_66 ?_
      refine e_iload_n dX9_cellAt_67 rfl rfl ?_
      refine e_iadd dX9_cellAt_68 ?_
      refine e_goto (tgt := 73) dX9_cellAt_69 (by decide) ?_
      refine e_iret dX9_cellAt_73 rfl trivial (by decide) (by decide) ?_
      exact ⟨zqe (by unfold cellAt; first | rw [if_pos (by omega)] | rw [if_neg (by omega)]), rfl⟩
set_option maxHeartbeats 4000000 in
set_option maxRecDepth 100000 in
theorem c_X9_placeOf {l : Launch} (hl : l.stackTraces = false) {S : S9} {h : zH} (hM : RM S h) (w c : Int) (hw0 : 0 ≤ w) (hw1 : w < 24) (hW : IW1 S w) (hc0 : 0 ≤ c) (hc1 : c < 96) : zC l MX9_placeOf [zR (some 99), zI w, zI c] h (fun o h' => o = .inl (some (zI (placeOf S w c))) ∧ h' = h) := by
  refine zC_of hl rfl rfl (by decide) rfl rfl (Nat.le_of_ble_eq_true rfl) ?_
  have hM : MM S h h := MM_rf hM
  have hW2 := hW
  obtain ⟨w1, w2, w3, w4, w5, w6, w7, w8, w9, w10⟩ := hW2
  have g1 : 0 ≤ c % S 7 w := Int.emod_nonneg _ (by omega)
  have g2 : c % S 7 w < S 7 w := Int.emod_lt_of_pos _ (by omega)
  have g3 : 0 ≤ c / S 7 w := Int.ediv_nonneg hc0 (by omega)
  have g4 : c / S 7 w ≤ c := Int.ediv_le_self _ hc0
  refine e_aload_n dX9_placeOf_0 rfl rfl ?_
  refine m_arr 5 dX9_placeOf_1 flX9_13 rfl hM (by decide) ?_
  refine e_iload_n dX9_placeOf_4 rfl rfl ?_
  refine m_ld dX9_placeOf_5 hM (by decide) rfl (by omega) (by simp only [mL]; omega) rfl (fun r5 => ?_)
  refine e_iload_n dX9_placeOf_6 rfl rfl ?_
  refine e_aload_n dX9_placeOf_7 rfl rfl ?_
  refine m_arr 7 dX9_placeOf_8 flX9_19 rfl hM (by decide) ?_
  refine e_iload_n dX9_placeOf_11 rfl rfl ?_
  refine m_ld dX9_placeOf_12 hM (by decide) rfl (by omega) (by simp only [mL]; omega) rfl (fun r12 => ?_)
  refine e_irem dX9_placeOf_13 (by omega) (by omega) (by omega) (by omega) ?_
  refine e_iadd dX9_placeOf_14 ?_
  refine e_istore_n dX9_placeOf_15 rfl (by decide) rfl rfl ?_
  refine e_aload_n dX9_placeOf_16 rfl rfl ?_
  refine m_arr 6 dX9_placeOf_17 flX9_16 rfl hM (by decide) ?_
  refine e_iload_n dX9_placeOf_20 rfl rfl ?_
  refine m_ld dX9_placeOf_21 hM (by decide) rfl (by omega) (by simp only [mL]; omega) rfl (fun r21 => ?_)
  refine e_iload_n dX9_placeOf_22 rfl rfl ?_
  refine e_aload_n dX9_placeOf_23 rfl rfl ?_
  refine m_arr 7 dX9_placeOf_24 flX9_19 rfl hM (by decide) ?_
  refine e_iload_n dX9_placeOf_27 rfl rfl ?_
  refine m_ld dX9_placeOf_28 hM (by decide) rfl (by omega) (by simp only [mL]; omega) rfl (fun r28 => ?_)
  refine e_idiv dX9_placeOf_29 (by omega) (by omega) (by omega) (by omega) ?_
  refine e_iadd dX9_placeOf_30 ?_
  refine e_istore dX9_placeOf_31 (by decide) rfl rfl ?_
  refine e_iload_n dX9_placeOf_33 rfl rfl ?_
  refine e_iconst dX9_placeOf_34 ?_
  refine e_bipush dX9_placeOf_35 (by decide) ?_
  refine e_callS (As := [zI _, zI _, zI _]) dX9_placeOf_37 moX9_in msX9_in mlX9_139 rfl (Nat.le_of_ble_eq_true rfl) ⟨by decide, by decide, by decide, by decide⟩ (c_X9_in hl _ _ _ (by omega) (by omega) (by omega)) (fun E h1 q => by cases q.1) (fun v h9 q => ?_)
  obtain ⟨e1, e2⟩ := q; cases e1; rw [e2]; clear e2 h9
  refine e_if_eq (tgt := 64) dX9_placeOf_40 (by decide) b2_in (fun c40 => ?_) (fun c40 => ?_)
  · skip
    try simp only [b2_0, b2_n0] at c40
    refine e_iconst dX9_placeOf_64 ?_
    refine e_iret dX9_placeOf_65 rfl trivial (by decide) (by decide) ?_
    exact ⟨zqe (by unfold placeOf; first | rw [if_pos (by omega)] | rw [if_neg (by omega)]), rfl⟩
  · skip
    try simp only [b2_0, b2_n0] at c40
    refine e_iload dX9_placeOf_43 rfl ?_
    refine e_iconst dX9_placeOf_45 ?_
    refine e_bipush dX9_placeOf_46 (by decide) ?_
    refine e_callS (As := [zI _, zI _, zI _]) dX9_placeOf_48 moX9_in msX9_in mlX9_139 rfl (Nat.le_of_ble_eq_true rfl) ⟨by decide, by decide, by decide, by decide⟩ (c_X9_in hl _ _ _ (by omega) (by omega) (by omega)) (fun E h1 q => by cases q.1) (fun v h9 q => ?_)
    obtain ⟨e1, e2⟩ := q; cases e1; rw [e2]; clear e2 h9
    refine e_if_eq (tgt := 64) dX9_placeOf_51 (by decide) b2_in (fun c51 => ?_) (fun c51 => ?_)
    · skip
      try simp only [b2_0, b2_n0] at c51
      refine e_iconst dX9_placeOf_64 ?_
      refine e_iret dX9_placeOf_65 rfl trivial (by decide) (by decide) ?_
      exact ⟨zqe (by unfold placeOf; first | rw [if_pos (by omega)] | rw [if_neg (by omega)]), rfl⟩
    · skip
      try simp only [b2_0, b2_n0] at c51
      refine e_iload dX9_placeOf_54 rfl ?_
      refine e_bipush dX9_placeOf_56 (by decide) ?_
      refine e_imul dX9_placeOf_58 ?_
      refine e_iload_n dX9_placeOf_59 rfl rfl ?_
      refine e_iadd dX9_placeOf_60 ?_
      refine e_goto (tgt := 65) dX9_placeOf_61 (by decide) ?_
      refine e_iret dX9_placeOf_65 rfl trivial (by decide) (by decide) ?_
      exact ⟨zqe (by unfold placeOf; first | rw [if_pos (by omega)] | rw [if_neg (by omega)]), rfl⟩
set_option maxHeartbeats 4000000 in
set_option maxRecDepth 100000 in
theorem c_X9_topAt {l : Launch} (hl : l.stackTraces = false) {S : S9} {h : zH} (hM : RM S h) (hN : IN S) (hI : IW S) (hO : IO S) (s p : Int) (hs0 : 0 ≤ s) (hs1 : s < 4) (hp0 : 0 ≤ p) (hp1 : p < 96) : zC l MX9_topAt [zR (some 99), zI s, zI p] h (fun o h' => o = .inl (some (zI (topAt S s p))) ∧ h' = h) := by
  refine zC_of hl rfl rfl (by decide) rfl rfl (Nat.le_of_ble_eq_true rfl) ?_
  have hM : MM S h h := MM_rf hM
  have hN2 := hN.2.2.2.2 s hs0 hs1
  refine e_bipush dX9_topAt_0 (by decide) ?_
  refine e_iload_n dX9_topAt_2 rfl rfl ?_
  refine e_imul dX9_topAt_3 ?_
  refine e_aload_n dX9_topAt_4 rfl rfl ?_
  refine m_arr 16 dX9_topAt_5 flX9_47 rfl hM (by decide) ?_
  refine e_iload_n dX9_topAt_8 rfl rfl ?_
  refine m_ld dX9_topAt_9 hM (by decide) rfl (by omega) (by simp only [mL]; omega) rfl (fun r9 => ?_)
  refine e_iadd dX9_topAt_10 ?_
  refine e_iconst dX9_topAt_11 ?_
  refine e_isub dX9_topAt_12 ?_
  refine e_istore_n dX9_topAt_13 rfl (by decide) rfl rfl ?_
  have lp14 : ∀ (d : Nat) (a : Int), (a - 6 * s + 1).toNat < d → 6 * s - 1 ≤ a → a < 6 * s + S 16 s → topAtN S s p (a - 6 * s + 1).toNat = topAt S s p → AW l MX9_topAt (fun o h' => o = .inl (some (zI (topAt S s p))) ∧ h' = h) 0 0 14 [zR (some 99), zI s, zI p, zI a] [] h := by
    intro d
    induction d with
    | zero => intro a hd a1 a2 a3; exact absurd hd (by omega)
    | succ d ih =>
      have ih14 := ih
      intro a hd a1 a2 a3
      refine e_iload_n dX9_topAt_14 rfl rfl ?_
      refine e_bipush dX9_topAt_15 (by decide) ?_
      refine e_iload_n dX9_topAt_17 rfl rfl ?_
      refine e_imul dX9_topAt_18 ?_
      refine e_icmp_lt (tgt := 63) dX9_topAt_19 (by decide) (by omega) (by omega) (fun c19 => ?_) (fun c19 => ?_)
      · skip
        refine e_iconst dX9_topAt_63 ?_
        refine e_iret dX9_topAt_64 rfl trivial (by decide) (by decide) ?_
        exact ⟨zqe (by rw [show (a - 6 * s + 1).toNat = 0 by omega] at a3; exact a3), rfl⟩
      · skip
        have e9 : (a - 6 * s + 1).toNat = (a - 6 * s).toNat + 1 := by omega
        have e8 : 6 * s + ((a - 6 * s).toNat : Int) = a := by omega
        have o1 := hO s (a - 6 * s) hs0 hs1 (by omega) (by omega)
        rw [show 6 * s + (a - 6 * s) = a by omega] at o1
        have o2 := hI s _ o1.1
        refine e_aload_n dX9_topAt_22 rfl rfl ?_
        refine m_arr 11 dX9_topAt_23 flX9_32 rfl hM (by decide) ?_
        refine e_aload_n dX9_topAt_26 rfl rfl ?_
        refine m_arr 15 dX9_topAt_27 flX9_44 rfl hM (by decide) ?_
        refine e_iload_n dX9_topAt_30 rfl rfl ?_
        refine m_ld dX9_topAt_31 hM (by decide) rfl (by omega) (by simp only [mL]; omega) rfl (fun r31 => ?_)
        refine m_ldz dX9_topAt_32 hM (by decide) rfl (by omega) (by simp only [mL]; omega) rfl (fun r32 => ?_)
        refine e_if_eq (tgt := 57) dX9_topAt_33 (by decide) (by omega) (fun c33 => ?_) (fun c33 => ?_)
        · skip
          try simp only [b2_0, b2_n0] at c33
          refine e_iinc dX9_topAt_57 (by decide) rfl rfl rfl rfl ?_
          refine e_goto (tgt := 14) dX9_topAt_60 (by decide) ?_
          exact ih _ (by omega) (by omega) (by omega) (by rw [show (a + -1 - 6 * s + 1).toNat = (a - 6 * s).toNat by omega]; rw [e9] at a3; unfold topAtN at a3; rw [if_neg (by rw [e8]; omega)] at a3; exact a3)
        · skip
          try simp only [b2_0, b2_n0] at c33
          refine e_aload_n dX9_topAt_36 rfl rfl ?_
          refine e_aload_n dX9_topAt_37 rfl rfl ?_
          refine m_arr 15 dX9_topAt_38 flX9_44 rfl hM (by decide) ?_
          refine e_iload_n dX9_topAt_41 rfl rfl ?_
          refine m_ld dX9_topAt_42 hM (by decide) rfl (by omega) (by simp only [mL]; omega) rfl (fun r42 => ?_)
          refine e_iload_n dX9_topAt_43 rfl rfl ?_
          refine e_callV (As := [zI _, zI _]) (cb := 10) dX9_topAt_44 moX9_cellAt mvX9_cellAt mlX9_157 (by decide) rfl hM.1.1 rfl (Nat.le_of_ble_eq_true rfl) ⟨by decide, by decide, by decide, by decide⟩ (c_X9_cellAt hl hM.1 _ _ (by omega) (by omega) o2 hp0 hp1) (fun E h1 q => by cases q.1) (fun v h9 q => ?_)
          obtain ⟨e1, e2⟩ := q; cases e1; rw [e2]; clear e2 h9
          refine e_if_lt (tgt := 57) dX9_topAt_47 (by decide) (by have := cellAt_in (p := p) o2; omega) (fun c47 => ?_) (fun c47 => ?_)
          · skip
            refine e_iinc dX9_topAt_57 (by decide) rfl rfl rfl rfl ?_
            refine e_goto (tgt := 14) dX9_topAt_60 (by decide) ?_
            exact ih _ (by omega) (by omega) (by omega) (by rw [show (a + -1 - 6 * s + 1).toNat = (a - 6 * s).toNat by omega]; rw [e9] at a3; unfold topAtN at a3; rw [if_neg (by rw [e8]; omega)] at a3; exact a3)
          · skip
            refine e_aload_n dX9_topAt_50 rfl rfl ?_
            refine m_arr 15 dX9_topAt_51 flX9_44 rfl hM (by decide) ?_
            refine e_iload_n dX9_topAt_54 rfl rfl ?_
            refine m_ld dX9_topAt_55 hM (by decide) rfl (by omega) (by simp only [mL]; omega) rfl (fun r55 => ?_)
            refine e_iret dX9_topAt_56 rfl trivial (by decide) (by decide) ?_
            exact ⟨zqe (by rw [e9] at a3; unfold topAtN at a3; rw [if_pos (by rw [e8]; omega), e8] at a3; exact a3), rfl⟩
  exact lp14 (6 + 1) _ (by omega) (by omega) (by omega) (by rw [show (6 * s + S 16 s - 1 - 6 * s + 1).toNat = (S 16 s).toNat by omega]; rfl)
set_option maxHeartbeats 4000000 in
set_option maxRecDepth 100000 in
theorem c_X9_screenAt {l : Launch} (hl : l.stackTraces = false) {S : S9} {h : zH} (hM : RM S h) (hN : IN S) (hI : IW S) (hO : IO S) (s p : Int) (hs0 : 0 ≤ s) (hs1 : s < 4) (hp0 : 0 ≤ p) (hp1 : p < 96) : zC l MX9_screenAt [zR (some 99), zI s, zI p] h (fun o h' => o = .inl (some (zI (screenAt S s p))) ∧ h' = h) := by
  refine zC_of hl rfl rfl (by decide) rfl rfl (Nat.le_of_ble_eq_true rfl) ?_
  have hM : MM S h h := MM_rf hM
  have hN2 := hN.2.2.2.2 s hs0 hs1
  have t1 := topAt_in (p := p) hN hO hs0 hs1
  refine e_aload_n dX9_screenAt_0 rfl rfl ?_
  refine e_iload_n dX9_screenAt_1 rfl rfl ?_
  refine e_iload_n dX9_screenAt_2 rfl rfl ?_
  refine e_callV (As := [zI _, zI _]) (cb := 10) dX9_screenAt_3 moX9_topAt mvX9_topAt mlX9_161 (by decide) rfl hM.1.1 rfl (Nat.le_of_ble_eq_true rfl) ⟨by decide, by decide, by decide, by decide⟩ (c_X9_topAt hl hM.1 hN hI hO _ _ hs0 hs1 hp0 hp1) (fun E h1 q => by cases q.1) (fun v h9 q => ?_)
  obtain ⟨e1, e2⟩ := q; cases e1; rw [e2]; clear e2 h9
  refine e_istore_n dX9_screenAt_6 rfl (by decide) rfl rfl ?_
  refine e_iload_n dX9_screenAt_7 rfl rfl ?_
  refine e_if_ge (tgt := 15) dX9_screenAt_8 (by decide) (by omega) (fun c8 => ?_) (fun c8 => ?_)
  · skip
    have t2 : hasW S s (topAt S s p) := by omega
    have t3 := hI s _ t2
    have t4 := cellAt_in (p := p) t3
    refine e_aload_n dX9_screenAt_15 rfl rfl ?_
    refine m_arr 14 dX9_screenAt_16 flX9_41 rfl hM (by decide) ?_
    refine e_bipush dX9_screenAt_19 (by decide) ?_
    refine e_iload_n dX9_screenAt_21 rfl rfl ?_
    refine e_imul dX9_screenAt_22 ?_
    refine e_aload_n dX9_screenAt_23 rfl rfl ?_
    refine e_iload_n dX9_screenAt_24 rfl rfl ?_
    refine e_iload_n dX9_screenAt_25 rfl rfl ?_
    refine e_callV (As := [zI _, zI _]) (cb := 10) dX9_screenAt_26 moX9_cellAt mvX9_cellAt mlX9_157 (by decide) rfl hM.1.1 rfl (Nat.le_of_ble_eq_true rfl) ⟨by decide, by decide, by decide, by decide⟩ (c_X9_cellAt hl hM.1 _ _ (by omega) (by omega) t3 hp0 hp1) (fun E h1 q => by cases q.1) (fun v h9 q => ?_)
    obtain ⟨e1, e2⟩ := q; cases e1; rw [e2]; clear e2 h9
    refine e_iadd dX9_screenAt_29 ?_
    refine m_ld dX9_screenAt_30 hM (by decide) rfl (by omega) (by simp only [mL]; omega) rfl (fun r30 => ?_)
    refine e_iret dX9_screenAt_31 rfl trivial (by decide) (by decide) ?_
    exact ⟨zqe (by unfold screenAt; first | rw [if_pos (by omega)] | rw [if_neg (by omega)]), rfl⟩
  · skip
    refine e_iconst dX9_screenAt_11 ?_
    refine e_goto (tgt := 31) dX9_screenAt_12 (by decide) ?_
    refine e_iret dX9_screenAt_31 rfl trivial (by decide) (by decide) ?_
    exact ⟨zqe (by unfold screenAt; first | rw [if_pos (by omega)] | rw [if_neg (by omega)]), rfl⟩
