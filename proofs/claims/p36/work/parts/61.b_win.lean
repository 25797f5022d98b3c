set_option maxHeartbeats 4000000 in
set_option maxRecDepth 100000 in
theorem c_X8_isWithin {l : Launch} (hl : l.stackTraces = false) {h : zH} (v a b : Int) (hv : zin v) (ha : zin a) (hb : zin b) : zC l MX8_isWithin [zI v, zI a, zI b] h (fun o h' => o = .inl (some (zI (b2 (a ≤ v ∧ v ≤ b)))) ∧ h' = h) := by
  refine zC_of hl rfl rfl (by decide) rfl rfl (Nat.le_of_ble_eq_true rfl) ?_
  refine e_iload_n dX8_isWithin_0 rfl rfl ?_
  refine e_iload_n dX8_isWithin_1 rfl rfl ?_
  refine e_icmp_lt (tgt := 14) dX8_isWithin_2 (by decide) (by omega) (by omega) (fun c2 => ?_) (fun c2 => ?_)
  · skip
    refine e_iconst dX8_isWithin_14 ?_
    refine e_iret dX8_isWithin_15 rfl (by first | exact Or.inl rfl | exact Or.inr rfl | assumption | exact b2_01) (by decide) (by decide) ?_
    exact ⟨zqe (by first | exact (b2_t (by omega)).symm | exact (b2_f (by omega)).symm), rfl⟩
  · skip
    refine e_iload_n dX8_isWithin_5 rfl rfl ?_
    refine e_iload_n dX8_isWithin_6 rfl rfl ?_
    refine e_icmp_gt (tgt := 14) dX8_isWithin_7 (by decide) (by omega) (by omega) (fun c7 => ?_) (fun c7 => ?_)
    · skip
      refine e_iconst dX8_isWithin_14 ?_
      refine e_iret dX8_isWithin_15 rfl (by first | exact Or.inl rfl | exact Or.inr rfl | assumption | exact b2_01) (by decide) (by decide) ?_
      exact ⟨zqe (by first | exact (b2_t (by omega)).symm | exact (b2_f (by omega)).symm), rfl⟩
    · skip
      refine e_iconst dX8_isWithin_10 ?_
      refine e_goto (tgt := 15) dX8_isWithin_11 (by decide) ?_
      refine e_iret dX8_isWithin_15 rfl (by first | exact Or.inl rfl | exact Or.inr rfl | assumption | exact b2_01) (by decide) (by decide) ?_
      exact ⟨zqe (by first | exact (b2_t (by omega)).symm | exact (b2_f (by omega)).symm), rfl⟩
set_option maxHeartbeats 4000000 in
set_option maxRecDepth 100000 in
theorem c_X8_isScreenCell {l : Launch} (hl : l.stackTraces = false) {h : zH} (x y : Int) (hx : zin x) (hy : zin y) : zC l MX8_isScreenCell [zI x, zI y] h (fun o h' => o = .inl (some (zI (b2 (isXY x y)))) ∧ h' = h) := by
  refine zC_of hl rfl rfl (by decide) rfl rfl (Nat.le_of_ble_eq_true rfl) ?_
  refine e_iload_n dX8_isScreenCell_0 rfl rfl ?_
  refine e_iconst dX8_isScreenCell_1 ?_
  refine e_bipush dX8_isScreenCell_2 (by decide) ?_
  refine e_callS (As := [zI _, zI _, zI _]) dX8_isScreenCell_4 moX8_isWithin msX8_isWithin mlX8_116 rfl (Nat.le_of_ble_eq_true rfl) ⟨by decide, by decide, by decide, by decide⟩ (c_X8_isWithin hl _ _ _ (by omega) (by omega) (by omega)) (fun E h1 q => by cases q.1) (fun v h9 q => ?_)
  obtain ⟨e1, e2⟩ := q; cases e1; rw [e2]; clear e2 h9
  refine e_if_eq (tgt := 24) dX8_isScreenCell_7 (by decide) b2_in (fun c7 => ?_) (fun c7 => ?_)
  · skip
    try simp only [b2_0, b2_n0] at c7
    refine e_iconst dX8_isScreenCell_24 ?_
    refine e_iret dX8_isScreenCell_25 rfl (by first | exact Or.inl rfl | exact Or.inr rfl | assumption | exact b2_01) (by decide) (by decide) ?_
    exact ⟨zqe (by first | exact (b2_t (by omega)).symm | exact (b2_f (by omega)).symm), rfl⟩
  · skip
    try simp only [b2_0, b2_n0] at c7
    refine e_iload_n dX8_isScreenCell_10 rfl rfl ?_
    refine e_iconst dX8_isScreenCell_11 ?_
    refine e_bipush dX8_isScreenCell_12 (by decide) ?_
    refine e_callS (As := [zI _, zI _, zI _]) dX8_isScreenCell_14 moX8_isWithin msX8_isWithin mlX8_116 rfl (Nat.le_of_ble_eq_true rfl) ⟨by decide, by decide, by decide, by decide⟩ (c_X8_isWithin hl _ _ _ (by omega) (by omega) (by omega)) (fun E h1 q => by cases q.1) (fun v h9 q => ?_)
    obtain ⟨e1, e2⟩ := q; cases e1; rw [e2]; clear e2 h9
    refine e_if_eq (tgt := 24) dX8_isScreenCell_17 (by decide) b2_in (fun c17 => ?_) (fun c17 => ?_)
    · skip
      try simp only [b2_0, b2_n0] at c17
      refine e_iconst dX8_isScreenCell_24 ?_
      refine e_iret dX8_isScreenCell_25 rfl (by first | exact Or.inl rfl | exact Or.inr rfl | assumption | exact b2_01) (by decide) (by decide) ?_
      exact ⟨zqe (by first | exact (b2_t (by omega)).symm | exact (b2_f (by omega)).symm), rfl⟩
    · skip
      try simp only [b2_0, b2_n0] at c17
      refine e_iconst dX8_isScreenCell_20 ?_
      refine e_goto (tgt := 25) dX8_isScreenCell_21 (by decide) ?_
      refine e_iret dX8_isScreenCell_25 rfl (by first | exact Or.inl rfl | exact Or.inr rfl | assumption | exact b2_01) (by decide) (by decide) ?_
      exact ⟨zqe (by first | exact (b2_t (by omega)).symm | exact (b2_f (by omega)).symm), rfl⟩
set_option maxHeartbeats 4000000 in
set_option maxRecDepth 100000 in
theorem c_X8_isWindowPlace {l : Launch} (hl : l.stackTraces = false) {h : zH} (x y : Int) (hx : zin x) (hy : zin y) : zC l MX8_isWindowPlace [zI x, zI y] h (fun o h' => o = .inl (some (zI (b2 ((-5 ≤ x ∧ x ≤ 11) ∧ (-5 ≤ y ∧ y ≤ 7))))) ∧ h' = h) := by
  refine zC_of hl rfl rfl (by decide) rfl rfl (Nat.le_of_ble_eq_true rfl) ?_
  refine e_iload_n dX8_isWindowPlace_0 rfl rfl ?_
  refine e_bipush dX8_isWindowPlace_1 (by decide) ?_
  refine e_bipush dX8_isWindowPlace_3 (by decide) ?_
  refine e_callS (As := [zI _, zI _, zI _]) dX8_isWindowPlace_5 moX8_isWithin msX8_isWithin mlX8_116 rfl (Nat.le_of_ble_eq_true rfl) ⟨by decide, by decide, by decide, by decide⟩ (c_X8_isWithin hl _ _ _ (by omega) (by omega) (by omega)) (fun E h1 q => by cases q.1) (fun v h9 q => ?_)
  obtain ⟨e1, e2⟩ := q; cases e1; rw [e2]; clear e2 h9
  refine e_if_eq (tgt := 26) dX8_isWindowPlace_8 (by decide) b2_in (fun c8 => ?_) (fun c8 => ?_)
  · skip
    try simp only [b2_0, b2_n0] at c8
    refine e_iconst dX8_isWindowPlace_26 ?_
    refine e_iret dX8_isWindowPlace_27 rfl (by first | exact Or.inl rfl | exact Or.inr rfl | assumption | exact b2_01) (by decide) (by decide) ?_
    exact ⟨zqe (by first | exact (b2_t (by omega)).symm | exact (b2_f (by omega)).symm), rfl⟩
  · skip
    try simp only [b2_0, b2_n0] at c8
    refine e_iload_n dX8_isWindowPlace_11 rfl rfl ?_
    refine e_bipush dX8_isWindowPlace_12 (by decide) ?_
    refine e_bipush dX8_isWindowPlace_14 (by decide) ?_
    refine e_callS (As := [zI _, zI _, zI _]) dX8_isWindowPlace_16 moX8_isWithin msX8_isWithin mlX8_116 rfl (Nat.le_of_ble_eq_true rfl) ⟨by decide, by decide, by decide, by decide⟩ (c_X8_isWithin hl _ _ _ (by omega) (by omega) (by omega)) (fun E h1 q => by cases q.1) (fun v h9 q => ?_)
    obtain ⟨e1, e2⟩ := q; cases e1; rw [e2]; clear e2 h9
    refine e_if_eq (tgt := 26) dX8_isWindowPlace_19 (by decide) b2_in (fun c19 => ?_) (fun c19 => ?_)
    · skip
      try simp only [b2_0, b2_n0] at c19
      refine e_iconst dX8_isWindowPlace_26 ?_
      refine e_iret dX8_isWindowPlace_27 rfl (by first | exact Or.inl rfl | exact Or.inr rfl | assumption | exact b2_01) (by decide) (by decide) ?_
      exact ⟨zqe (by first | exact (b2_t (by omega)).symm | exact (b2_f (by omega)).symm), rfl⟩
    · skip
      try simp only [b2_0, b2_n0] at c19
      refine e_iconst dX8_isWindowPlace_22 ?_
      refine e_goto (tgt := 27) dX8_isWindowPlace_23 (by decide) ?_
      refine e_iret dX8_isWindowPlace_27 rfl (by first | exact Or.inl rfl | exact Or.inr rfl | assumption | exact b2_01) (by decide) (by decide) ?_
      exact ⟨zqe (by first | exact (b2_t (by omega)).symm | exact (b2_f (by omega)).symm), rfl⟩
set_option maxHeartbeats 4000000 in
set_option maxRecDepth 100000 in
theorem c_X8_isSize {l : Launch} (hl : l.stackTraces = false) {h : zH} (x y : Int) (hx : zin x) (hy : zin y) : zC l MX8_isSize [zI x, zI y] h (fun o h' => o = .inl (some (zI (b2 ((1 ≤ x ∧ x ≤ 12) ∧ (1 ≤ y ∧ y ≤ 8))))) ∧ h' = h) := by
  refine zC_of hl rfl rfl (by decide) rfl rfl (Nat.le_of_ble_eq_true rfl) ?_
  refine e_iload_n dX8_isSize_0 rfl rfl ?_
  refine e_iconst dX8_isSize_1 ?_
  refine e_bipush dX8_isSize_2 (by decide) ?_
  refine e_callS (As := [zI _, zI _, zI _]) dX8_isSize_4 moX8_isWithin msX8_isWithin mlX8_116 rfl (Nat.le_of_ble_eq_true rfl) ⟨by decide, by decide, by decide, by decide⟩ (c_X8_isWithin hl _ _ _ (by omega) (by omega) (by omega)) (fun E h1 q => by cases q.1) (fun v h9 q => ?_)
  obtain ⟨e1, e2⟩ := q; cases e1; rw [e2]; clear e2 h9
  refine e_if_eq (tgt := 24) dX8_isSize_7 (by decide) b2_in (fun c7 => ?_) (fun c7 => ?_)
  · skip
    try simp only [b2_0, b2_n0] at c7
    refine e_iconst dX8_isSize_24 ?_
    refine e_iret dX8_isSize_25 rfl (by first | exact Or.inl rfl | exact Or.inr rfl | assumption | exact b2_01) (by decide) (by decide) ?_
    exact ⟨zqe (by first | exact (b2_t (by omega)).symm | exact (b2_f (by omega)).symm), rfl⟩
  · skip
    try simp only [b2_0, b2_n0] at c7
    refine e_iload_n dX8_isSize_10 rfl rfl ?_
    refine e_iconst dX8_isSize_11 ?_
    refine e_bipush dX8_isSize_12 (by decide) ?_
    refine e_callS (As := [zI _, zI _, zI _]) dX8_isSize_14 moX8_isWithin msX8_isWithin mlX8_116 rfl (Nat.le_of_ble_eq_true rfl) ⟨by decide, by decide, by decide, by decide⟩ (c_X8_isWithin hl _ _ _ (by omega) (by omega) (by omega)) (fun E h1 q => by cases q.1) (fun v h9 q => ?_)
    obtain ⟨e1, e2⟩ := q; cases e1; rw [e2]; clear e2 h9
    refine e_if_eq (tgt := 24) dX8_isSize_17 (by decide) b2_in (fun c17 => ?_) (fun c17 => ?_)
    · skip
      try simp only [b2_0, b2_n0] at c17
      refine e_iconst dX8_isSize_24 ?_
      refine e_iret dX8_isSize_25 rfl (by first | exact Or.inl rfl | exact Or.inr rfl | assumption | exact b2_01) (by decide) (by decide) ?_
      exact ⟨zqe (by first | exact (b2_t (by omega)).symm | exact (b2_f (by omega)).symm), rfl⟩
    · skip
      try simp only [b2_0, b2_n0] at c17
      refine e_iconst dX8_isSize_20 ?_
      refine e_goto (tgt := 25) dX8_isSize_21 (by decide) ?_
      refine e_iret dX8_isSize_25 rfl (by first | exact Or.inl rfl | exact Or.inr rfl | assumption | exact b2_01) (by decide) (by decide) ?_
      exact ⟨zqe (by first | exact (b2_t (by omega)).symm | exact (b2_f (by omega)).symm), rfl⟩
set_option maxHeartbeats 4000000 in
set_option maxRecDepth 100000 in
theorem c_X8_rightNumber {l : Launch} (hl : l.stackTraces = false) {h : zH} (a b t : Int) : zC l MX8_rightNumber [zI a, zI b, zI t] h (fun o h' => o = .inl (some (zI ((4 * a + b) * 3 + t))) ∧ h' = h) := by
  refine zC_of hl rfl rfl (by decide) rfl rfl (Nat.le_of_ble_eq_true rfl) ?_
  refine e_iload_n dX8_rightNumber_0 rfl rfl ?_
  refine e_iconst dX8_rightNumber_1 ?_
  refine e_imul dX8_rightNumber_2 ?_
  refine e_iload_n dX8_rightNumber_3 rfl rfl ?_
  refine e_iadd dX8_rightNumber_4 ?_
  refine e_iconst dX8_rightNumber_5 ?_
  refine e_imul dX8_rightNumber_6 ?_
  refine e_iload_n dX8_rightNumber_7 rfl rfl ?_
  refine e_iadd dX8_rightNumber_8 ?_
  refine e_iret dX8_rightNumber_9 rfl trivial (by decide) (by decide) ?_
  exact ⟨zqe (by omega), rfl⟩
set_option maxHeartbeats 4000000 in
set_option maxRecDepth 100000 in
theorem c_X8_screenCell {l : Launch} (hl : l.stackTraces = false) {h : zH} (x y : Int) (hx : zin x) (hy : zin y) : zC l MX8_screenCell [zI x, zI y] h (fun o h' => h' = h ∧ ((isXY x y ∧ o = .inl (some (zI (y * 12 + x)))) ∨ (¬ isXY x y ∧ o = .inr "java/lang/IndexOutOfBoundsException"))) := by
  refine zC_of hl rfl rfl (by decide) rfl rfl (Nat.le_of_ble_eq_true rfl) ?_
  refine e_iload_n dX8_screenCell_0 rfl rfl ?_
  refine e_iload_n dX8_screenCell_1 rfl rfl ?_
  refine e_callS (As := [zI _, zI _]) dX8_screenCell_2 moX8_isScreenCell msX8_isScreenCell mlX8_113 rfl (Nat.le_of_ble_eq_true rfl) ⟨by decide, by decide, by decide, by decide⟩ (c_X8_isScreenCell hl _ _ hx hy) (fun E h1 q => by cases q.1) (fun v h9 q => ?_)
  obtain ⟨e1, e2⟩ := q; cases e1; rw [e2]; clear e2 h9
  refine e_if_ne (tgt := 19) dX8_screenCell_5 (by decide) b2_in (fun c5 => ?_) (fun c5 => ?_)
  · skip
    try simp only [b2_0, b2_n0] at c5
    refine e_iload_n dX8_screenCell_19 rfl rfl ?_
    refine e_bipush dX8_screenCell_20 (by decide) ?_
    refine e_imul dX8_screenCell_22 ?_
    refine e_iload_n dX8_screenCell_23 rfl rfl ?_
    refine e_iadd dX8_screenCell_24 ?_
    refine e_iret dX8_screenCell_25 rfl trivial (by decide) (by decide) ?_
    exact ⟨rfl, Or.inl ⟨by omega, rfl⟩⟩
  · skip
    try simp only [b2_0, b2_n0] at c5
    refine e_throwW (cls := "java/lang/IndexOutOfBoundsException") (text := "there is no such cell") dX8_screenCell_8 dX8_screenCell_11 dX8_screenCell_12 dX8_screenCell_15 dX8_screenCell_18 (by decide +kernel) txX8_245 txI_IndexOutOfBoundsException (by decide +kernel) (by decide +kernel) zatX8_249 rfl (by decide) (by decide) (Nat.le_of_ble_eq_true rfl) (by decide) (by decide) ?_
    exact ⟨rfl, Or.inr ⟨by omega, rfl⟩⟩
set_option maxHeartbeats 4000000 in
set_option maxRecDepth 100000 in
theorem c_X7_covers {l : Launch} (hl : l.stackTraces = false) {S : S9} {h : zH} {w : Int} (hR : RW S h w) (hW : IW1 S w) (x y : Int) (hx : zin x) (hy : zin y) : zC l MX7_covers [zR (some (nW w)), zI x, zI y] h (fun o h' => o = .inl (some (zI (b2 ((S 5 w ≤ x ∧ x < S 5 w + S 7 w) ∧ S 6 w ≤ y ∧ y < S 6 w + S 8 w)))) ∧ h' = h) := by
  refine zC_of hl rfl rfl (by decide) rfl rfl (Nat.le_of_ble_eq_true rfl) ?_
  obtain ⟨k1, f0, f1, r2, f3, f4, f5, f6, f7, f8, f9, k2, n2, cs⟩ := id hR
  obtain ⟨w1, w2, w3, w4, w5, w6, w7, w8, w9, w10⟩ := id hW
  have wa := area_le w5 w6 w7 w8
  refine e_iload_n dX7_covers_0 rfl rfl ?_
  refine e_aload_n dX7_covers_1 rfl rfl ?_
  refine e_getI dX7_covers_2 flX7_9 rfl (by assumption) (by assumption) (fun r2 => ?_)
  refine e_icmp_lt (tgt := 46) dX7_covers_5 (by decide) (by omega) (by omega) (fun c5 => ?_) (fun c5 => ?_)
  · skip
    refine e_iconst dX7_covers_46 ?_
    refine e_iret dX7_covers_47 rfl (by first | exact Or.inl rfl | exact Or.inr rfl | assumption | exact b2_01) (by decide) (by decide) ?_
    exact ⟨zqe (by first | exact (b2_t (by omega)).symm | exact (b2_f (by omega)).symm), rfl⟩
  · skip
    refine e_iload_n dX7_covers_8 rfl rfl ?_
    refine e_aload_n dX7_covers_9 rfl rfl ?_
    refine e_getI dX7_covers_10 flX7_9 rfl (by assumption) (by assumption) (fun r10 => ?_)
    refine e_aload_n dX7_covers_13 rfl rfl ?_
    refine e_getI dX7_covers_14 flX7_18 rfl (by assumption) (by assumption) (fun r14 => ?_)
    refine e_iadd dX7_covers_17 ?_
    refine e_icmp_ge (tgt := 46) dX7_covers_18 (by decide) (by omega) (by omega) (fun c18 => ?_) (fun c18 => ?_)
    · skip
      refine e_iconst dX7_covers_46 ?_
      refine e_iret dX7_covers_47 rfl (by first | exact Or.inl rfl | exact Or.inr rfl | assumption | exact b2_01) (by decide) (by decide) ?_
      exact ⟨zqe (by first | exact (b2_t (by omega)).symm | exact (b2_f (by omega)).symm), rfl⟩
    · skip
      refine e_iload_n dX7_covers_21 rfl rfl ?_
      refine e_aload_n dX7_covers_22 rfl rfl ?_
      refine e_getI dX7_covers_23 flX7_15 rfl (by assumption) (by assumption) (fun r23 => ?_)
      refine e_icmp_lt (tgt := 46) dX7_covers_26 (by decide) (by omega) (by omega) (fun c26 => ?_) (fun c26 => ?_)
      · skip
        refine e_iconst dX7_covers_46 ?_
        refine e_iret dX7_covers_47 rfl (by first | exact Or.inl rfl | exact Or.inr rfl | assumption | exact b2_01) (by decide) (by decide) ?_
        exact ⟨zqe (by first | exact (b2_t (by omega)).symm | exact (b2_f (by omega)).symm), rfl⟩
      · skip
        refine e_iload_n dX7_covers_29 rfl rfl ?_
        refine e_aload_n dX7_covers_30 rfl rfl ?_
        refine e_getI dX7_covers_31 flX7_15 rfl (by assumption) (by assumption) (fun r31 => ?_)
        refine e_aload_n dX7_covers_34 rfl rfl ?_
        refine e_getI dX7_covers_35 flX7_21 rfl (by assumption) (by assumption) (fun r35 => ?_)
        refine e_iadd dX7_covers_38 ?_
        refine e_icmp_ge (tgt := 46) dX7_covers_39 (by decide) (by omega) (by omega) (fun c39 => ?_) (fun c39 => ?_)
        · skip
          refine e_iconst dX7_covers_46 ?_
          refine e_iret dX7_covers_47 rfl (by first | exact Or.inl rfl | exact Or.inr rfl | assumption | exact b2_01) (by decide) (by decide) ?_
          exact ⟨zqe (by first | exact (b2_t (by omega)).symm | exact (b2_f (by omega)).symm), rfl⟩
        · skip
          refine e_iconst dX7_covers_42 ?_
          refine e_goto (tgt := 47) dX7_covers_43 (by decide) ?_
          refine e_iret dX7_covers_47 rfl (by first | exact Or.inl rfl | exact Or.inr rfl | assumption | exact b2_01) (by decide) (by decide) ?_
          exact ⟨zqe (by first | exact (b2_t (by omega)).symm | exact (b2_f (by omega)).symm), rfl⟩
set_option maxHeartbeats 4000000 in
set_option maxRecDepth 100000 in
theorem c_X7_colourAt {l : Launch} (hl : l.stackTraces = false) {S : S9} {h : zH} {w : Int} (hR : RW S h w) (hW : IW1 S w) (x y : Int) (hx : S 5 w ≤ x ∧ x < S 5 w + S 7 w) (hy : S 6 w ≤ y ∧ y < S 6 w + S 8 w) : zC l MX7_colourAt [zR (some (nW w)), zI x, zI y] h (fun o h' => o = .inl (some (zI (S 14 (96 * w + ((y - S 6 w) * S 7 w + (x - S 5 w)))))) ∧ h' = h ∧ zin (S 14 (96 * w + ((y - S 6 w) * S 7 w + (x - S 5 w))))) := by
  refine zC_of hl rfl rfl (by decide) rfl rfl (Nat.le_of_ble_eq_true rfl) ?_
  obtain ⟨k1, f0, f1, r2, f3, f4, f5, f6, f7, f8, f9, k2, n2, cs⟩ := id hR
  obtain ⟨w1, w2, w3, w4, w5, w6, w7, w8, w9, w10⟩ := id hW
  have wa := area_le w5 w6 w7 w8
  have cl := cell_lt (W := S 7 w) (H := S 8 w) (x := x - S 5 w) (y := y - S 6 w) (by omega) (by omega) (by omega) (by omega)
  refine e_aload_n dX7_colourAt_0 rfl rfl ?_
  refine e_getR dX7_colourAt_1 flX7_24 rfl (by assumption) (by assumption) ?_
  refine e_iload_n dX7_colourAt_4 rfl rfl ?_
  refine e_aload_n dX7_colourAt_5 rfl rfl ?_
  refine e_getI dX7_colourAt_6 flX7_15 rfl (by assumption) (by assumption) (fun r6 => ?_)
  refine e_isub dX7_colourAt_9 ?_
  refine e_aload_n dX7_colourAt_10 rfl rfl ?_
  refine e_getI dX7_colourAt_11 flX7_18 rfl (by assumption) (by assumption) (fun r11 => ?_)
  refine e_imul dX7_colourAt_14 ?_
  refine e_iload_n dX7_colourAt_15 rfl rfl ?_
  refine e_iadd dX7_colourAt_16 ?_
  refine e_aload_n dX7_colourAt_17 rfl rfl ?_
  refine e_getI dX7_colourAt_18 flX7_9 rfl (by assumption) (by assumption) (fun r18 => ?_)
  refine e_isub dX7_colourAt_21 ?_
  refine e_iald dX7_colourAt_22 (by assumption) (by omega) (by rw [n2]; omega) (cs _ (by omega) (by omega)) (fun r22 => ?_)
  refine e_iret dX7_colourAt_23 rfl trivial (by decide) (by decide) ?_
  have e9 : 96 * w + ((y - S 6 w) * S 7 w + x - S 5 w) = 96 * w + ((y - S 6 w) * S 7 w + (x - S 5 w)) := by omega
  rw [e9] at r22 ⊢
  exact ⟨rfl, rfl, r22⟩
set_option maxHeartbeats 4000000 in
set_option maxRecDepth 100000 in
theorem c_X7_cellAhead {l : Launch} (hl : l.stackTraces = false) {S : S9} {h : zH} {w : Int} (hR : RW S h w) (hW : IW1 S w) (n : Int) (hn0 : 0 ≤ n) (hn1 : n ≤ 1000) : zC l MX7_cellAhead [zR (some (nW w)), zI n] h (fun o h' => o = .inl (some (zI ((S 9 w + n) % (S 7 w * S 8 w)))) ∧ h' = h) := by
  refine zC_of hl rfl rfl (by decide) rfl rfl (Nat.le_of_ble_eq_true rfl) ?_
  obtain ⟨k1, f0, f1, r2, f3, f4, f5, f6, f7, f8, f9, k2, n2, cs⟩ := id hR
  obtain ⟨w1, w2, w3, w4, w5, w6, w7, w8, w9, w10⟩ := id hW
  have wa := area_le w5 w6 w7 w8
  refine e_aload_n dX7_cellAhead_0 rfl rfl ?_
  refine e_getI dX7_cellAhead_1 flX7_41 rfl (by assumption) (by assumption) (fun r1 => ?_)
  refine e_iload_n dX7_cellAhead_4 rfl rfl ?_
  refine e_iadd dX7_cellAhead_5 ?_
  refine e_aload_n dX7_cellAhead_6 rfl rfl ?_
  refine e_getR dX7_cellAhead_7 flX7_24 rfl (by assumption) (by assumption) ?_
  refine e_alen dX7_cellAhead_10 (t := 0) k2 n2 ?_
  refine e_irem dX7_cellAhead_11 (by omega) (by omega) (by omega) (by omega) ?_
  refine e_iret dX7_cellAhead_12 rfl trivial (by decide) (by decide) ?_
  exact ⟨rfl, rfl⟩
set_option maxHeartbeats 4000000 in
set_option maxRecDepth 100000 in
theorem c_X7_placeOf {l : Launch} (hl : l.stackTraces = false) {S : S9} {h : zH} {w : Int} (hR : RW S h w) (hW : IW1 S w) (c : Int) (hc0 : 0 ≤ c) (hc1 : c < 96) : zC l MX7_placeOf [zR (some (nW w)), zI c] h (fun o h' => o = .inl (some (zI (placeOf S w c))) ∧ h' = h) := by
  refine zC_of hl rfl rfl (by decide) rfl rfl (Nat.le_of_ble_eq_true rfl) ?_
  obtain ⟨k1, f0, f1, r2, f3, f4, f5, f6, f7, f8, f9, k2, n2, cs⟩ := id hR
  obtain ⟨w1, w2, w3, w4, w5, w6, w7, w8, w9, w10⟩ := id hW
  have wa := area_le w5 w6 w7 w8
  have g1 : 0 ≤ c % S 7 w := Int.emod_nonneg _ (by omega)
  have g2 : c % S 7 w < S 7 w := Int.emod_lt_of_pos _ (by omega)
  have g3 : 0 ≤ c / S 7 w := Int.ediv_nonneg hc0 (by omega)
  have g4 : c / S 7 w ≤ c := Int.ediv_le_self _ hc0
  refine e_aload_n dX7_placeOf_0 rfl rfl ?_
  refine e_getI dX7_placeOf_1 flX7_9 rfl (by assumption) (by assumption) (fun r1 => ?_)
  refine e_iload_n dX7_placeOf_4 rfl rfl ?_
  refine e_aload_n dX7_placeOf_5 rfl rfl ?_
  refine e_getI dX7_placeOf_6 flX7_18 rfl (by assumption) (by assumption) (fun r6 => ?_)
  refine e_irem dX7_placeOf_9 (by omega) (by omega) (by omega) (by omega) ?_
  refine e_iadd dX7_placeOf_10 ?_
  refine e_istore_n dX7_placeOf_11 rfl (by decide) rfl rfl ?_
  refine e_aload_n dX7_placeOf_12 rfl rfl ?_
  refine e_getI dX7_placeOf_13 flX7_15 rfl (by assumption) (by assumption) (fun r13 => ?_)
  refine e_iload_n dX7_placeOf_16 rfl rfl ?_
  refine e_aload_n dX7_placeOf_17 rfl rfl ?_
  refine e_getI dX7_placeOf_18 flX7_18 rfl (by assumption) (by assumption) (fun r18 => ?_)
  refine e_idiv dX7_placeOf_21 (by omega) (by omega) (by omega) (by omega) ?_
  refine e_iadd dX7_placeOf_22 ?_
  refine e_istore_n dX7_placeOf_23 rfl (by decide) rfl rfl ?_
  refine e_iload_n dX7_placeOf_24 rfl rfl ?_
  refine e_iload_n dX7_placeOf_25 rfl rfl ?_
  refine e_callSN (As := [zI _, zI _]) (host := RX8) dX7_placeOf_26 moX8_isScreenCell msX8_isScreenCell (by decide +kernel) rfl (Nat.le_of_ble_eq_true rfl) ⟨by decide, by decide, by decide, by decide⟩ (c_X8_isScreenCell hl _ _ (by omega) (by omega)) (fun E h1 q => by cases q.1) (fun v h9 q => ?_)
  obtain ⟨e1, e2⟩ := q; cases e1; rw [e2]; clear e2 h9
  refine e_if_eq (tgt := 41) dX7_placeOf_29 (by decide) b2_in (fun c29 => ?_) (fun c29 => ?_)
  · skip
    try simp only [b2_0, b2_n0] at c29
    refine e_iconst dX7_placeOf_41 ?_
    refine e_iret dX7_placeOf_42 rfl trivial (by decide) (by decide) ?_
    exact ⟨zqe (by unfold placeOf; first | rw [if_pos (by omega)] | rw [if_neg (by omega)]), rfl⟩
  · skip
    try simp only [b2_0, b2_n0] at c29
    refine e_iload_n dX7_placeOf_32 rfl rfl ?_
    refine e_bipush dX7_placeOf_33 (by decide) ?_
    refine e_imul dX7_placeOf_35 ?_
    refine e_iload_n dX7_placeOf_36 rfl rfl ?_
    refine e_iadd dX7_placeOf_37 ?_
    refine e_goto (tgt := 42) dX7_placeOf_38 (by decide) ?_
    refine e_iret dX7_placeOf_42 rfl trivial (by decide) (by decide) ?_
    exact ⟨zqe (by unfold placeOf; first | rw [if_pos (by omega)] | rw [if_neg (by omega)]), rfl⟩
set_option maxHeartbeats 4000000 in
set_option maxRecDepth 100000 in
theorem c_X7_put {l : Launch} (hl : l.stackTraces = false) {S : S9} {h : zH} {w : Int} (hR : RW S h w) (hW : IW1 S w) (hb : S 13 w = 0 ∨ S 13 w = 1) (e : Int) (he : zin e) : zC l MX7_put [zR (some (nW w)), zI e] h (fun o h' => o = .inl none ∧ RW (up (up S 14 (96 * w + S 9 w) (if S 13 w = 1 then 7 else e)) 9 w ((S 9 w + 1) % (S 7 w * S 8 w))) h' w ∧ ∀ m, m ≠ nW w → m ≠ nW w + 1 → eqAt m h h') := by
  refine zC_of hl rfl rfl (by decide) rfl rfl (Nat.le_of_ble_eq_true rfl) ?_
  obtain ⟨k1, f0, f1, r2, f3, f4, f5, f6, f7, f8, f9, k2, n2, cs⟩ := id hR
  obtain ⟨w1, w2, w3, w4, w5, w6, w7, w8, w9, w10⟩ := id hW
  have wa := area_le w5 w6 w7 w8
  refine e_aload_n dX7_put_0 rfl rfl ?_
  refine e_getR dX7_put_1 flX7_24 rfl (by assumption) (by assumption) ?_
  refine e_aload_n dX7_put_4 rfl rfl ?_
  refine e_getI dX7_put_5 flX7_41 rfl (by assumption) (by assumption) (fun r5 => ?_)
  refine e_aload_n dX7_put_8 rfl rfl ?_
  refine e_getI dX7_put_9 flX7_48 rfl (by assumption) (by assumption) (fun r9 => ?_)
  refine e_if_eq (tgt := 20) dX7_put_12 (by decide) (by omega) (fun c12 => ?_) (fun c12 => ?_)
  · skip
    try simp only [b2_0, b2_n0] at c12
    refine e_iload_n dX7_put_20 rfl rfl ?_
    refine e_iast dX7_put_21 (by assumption) (by omega) (by rw [n2]; omega) (by omega) ?_
    have hW2 : ∀ vv : Int, IW1 (up S 14 (96 * w + S 9 w) vv) w := fun _ => hW
    have hR2 : ∀ vv : Int, RW (up S 14 (96 * w + S 9 w) vv) (sa h (nW w + 1) (S 9 w) vv) w := fun vv => RW_cell hR (by omega)
    refine e_aload_n dX7_put_22 rfl rfl ?_
    refine e_aload_n dX7_put_23 rfl rfl ?_
    refine e_iconst dX7_put_24 ?_
    refine e_callV (As := [zI _]) (cb := 8) dX7_put_25 moX7_cellAhead mvX7_cellAhead mlX7_51 (by decide) rfl (by assumption) rfl (Nat.le_of_ble_eq_true rfl) ⟨by decide, by decide, by decide, by decide⟩ (c_X7_cellAhead hl (hR2 _) (hW2 _) 1 (by decide) (by decide)) (fun E h1 q => by cases q.1) (fun v h9 q => ?_)
    obtain ⟨e1, e2⟩ := q; cases e1; rw [e2]; clear e2 h9
    have gm := Int.emod_nonneg (S 9 w + 1) (b := S 7 w * S 8 w) (by omega)
    have gl := Int.emod_lt_of_pos (S 9 w + 1) (b := S 7 w * S 8 w) (by omega)
    refine e_putI dX7_put_28 flX7_41 (Or.inl rfl) trivial (by assumption) (by show zin ((S 9 w + 1) % (S 7 w * S 8 w)); omega) ?_
    refine e_vret dX7_put_31 rfl (by decide) (by decide) ?_
    first
      | exact ⟨rfl, by rw [if_pos (by omega)]; exact RW_caret (hR2 _), fun m m1 m2 => eqAt_tr (eqAt_sa m2) (eqAt_sf m1)⟩
      | exact ⟨rfl, by rw [if_neg (by omega)]; exact RW_caret (hR2 _), fun m m1 m2 => eqAt_tr (eqAt_sa m2) (eqAt_sf m1)⟩
  · skip
    try simp only [b2_0, b2_n0] at c12
    refine e_bipush dX7_put_15 (by decide) ?_
    refine e_goto (tgt := 21) dX7_put_17 (by decide) ?_
    refine e_iast dX7_put_21 (by assumption) (by omega) (by rw [n2]; omega) (by omega) ?_
    have hW2 : ∀ vv : Int, IW1 (up S 14 (96 * w + S 9 w) vv) w := fun _ => hW
    have hR2 : ∀ vv : Int, RW (up S 14 (96 * w + S 9 w) vv) (sa h (nW w + 1) (S 9 w) vv) w := fun vv => RW_cell hR (by omega)
    refine e_aload_n dX7_put_22 rfl rfl ?_
    refine e_aload_n dX7_put_23 rfl rfl ?_
    refine e_iconst dX7_put_24 ?_
    refine e_callV (As := [zI _]) (cb := 8) dX7_put_25 moX7_cellAhead mvX7_cellAhead mlX7_51 (by decide) rfl (by assumption) rfl (Nat.le_of_ble_eq_true rfl) ⟨by decide, by decide, by decide, by decide⟩ (c_X7_cellAhead hl (hR2 _) (hW2 _) 1 (by decide) (by decide)) (fun E h1 q => by cases q.1) (fun v h9 q => ?_)
    obtain ⟨e1, e2⟩ := q; cases e1; rw [e2]; clear e2 h9
    have gm := Int.emod_nonneg (S 9 w + 1) (b := S 7 w * S 8 w) (by omega)
    have gl := Int.emod_lt_of_pos (S 9 w + 1) (b := S 7 w * S 8 w) (by omega)
    refine e_putI dX7_put_28 flX7_41 (Or.inl rfl) trivial (by assumption) (by show zin ((S 9 w + 1) % (S 7 w * S 8 w)); omega) ?_
    refine e_vret dX7_put_31 rfl (by decide) (by decide) ?_
    first
      | exact ⟨rfl, by rw [if_pos (by omega)]; exact RW_caret (hR2 _), fun m m1 m2 => eqAt_tr (eqAt_sa m2) (eqAt_sf m1)⟩
      | exact ⟨rfl, by rw [if_neg (by omega)]; exact RW_caret (hR2 _), fun m m1 m2 => eqAt_tr (eqAt_sa m2) (eqAt_sf m1)⟩
