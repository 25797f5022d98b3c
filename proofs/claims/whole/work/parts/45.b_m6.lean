theorem c_X9_findsN {l : Launch} (hl : l.stackTraces = false) {S : S9} {h : zH} (hM : RM S h) (hN : IN S) (hI : IW S) (hO : IO S) (hC : IC S) (hK : IK S) (c : Int) (hc : 0 ≤ c ∧ c < S 2 0) : zC l MX9_finds [zR (some 99), zI c] h (fun o h' => o = .inl (some (zI (b2 (hasN S c)))) ∧ MM S h h' ∧ (hasN S c → FB S (Rc S c) h h' (bstC S c) (fstC S c)) ∧ zf h' 1000 99 = zf h 1000 99) := c_X9_finds hl hM hN hI hO hC hK c hc
set_option maxHeartbeats 4000000 in
set_option maxRecDepth 100000 in
theorem c_X9_failsNext {l : Launch} (hl : l.stackTraces = false) {S : S9} {h : zH} (hM : RM S h) (hN : IN S) (hI : IW S) (hO : IO S) (hC : IC S) (hK : IK S) (c : Int) (hc : zin c) : zC l MX9_failsNext [zR (some 99), zI c] h (fun o h' => MM S h h' ∧ zf h' 1000 99 = (if ¬ isC S c then 1 else if ¬ hasN S c then 2 else 0) ∧ o = .inl (some (zI (b2 (¬ (isC S c ∧ hasN S c))))) ∧ (isC S c → hasN S c → zf h' 1043 99 = (bstC S c).1 ∧ zf h' 1044 99 = (bstC S c).2.1)) := by
  refine zC_of hl rfl rfl (by decide) rfl rfl (Nat.le_of_ble_eq_true rfl) ?_
  have hM : MM S h h := MM_rf hM
  have hN2 := hN
  obtain ⟨n1, n2, n3, n4, n5⟩ := hN2
  refine e_aload_n dX9_failsNext_0 rfl rfl ?_
  refine e_iload_n dX9_failsNext_1 rfl rfl ?_
  refine e_callV (As := [zI _]) (cb := 10) dX9_failsNext_2 moX9_failsClient mvX9_failsClient mlX9_180 (by decide) rfl hM.1.1 rfl (Nat.le_of_ble_eq_true rfl) ⟨by decide, by decide, by decide, by decide⟩ (c_X9_failsClient hl hM.1 hN _ hc) (fun E h1 q => by cases q.1) (fun v h1 q => ?_)
  obtain ⟨e1, e2⟩ := q; cases e1; have ht := thr e2; have hM := MM_thr hM e2
  refine e_if_ne (tgt := 28) dX9_failsNext_5 (by decide) b2_in (fun c5 => ?_) (fun c5 => ?_)
  · skip
    try simp only [b2_0, b2_n0] at c5
    refine e_iconst dX9_failsNext_28 ?_
    refine e_goto (tgt := 33) dX9_failsNext_29 (by decide) ?_
    refine e_iret dX9_failsNext_33 rfl (by first | exact Or.inl rfl | exact Or.inr rfl | assumption | exact b2_01) (by decide) (by decide) ?_
    first | exact absurd trivial c25 | exact ⟨hM, ht.trans (by first | (rw [if_neg (by omega), if_neg (by omega)]; done) | (rw [if_neg (by omega), if_pos (by omega)]; done) | (rw [if_pos (by omega), b2_t (by omega)]; done)), zqe (by first | exact (b2_t (by omega)).symm | exact (b2_f (by omega)).symm), fun z1 z2 => by first | (exfalso; omega) | exact ⟨e43.trans (hf z2).2.2.1, e44.trans (hf z2).2.2.2.1⟩⟩
  · skip
    try simp only [b2_0, b2_n0] at c5
    refine e_aload_n dX9_failsNext_8 rfl rfl ?_
    refine e_aload_n dX9_failsNext_9 rfl rfl ?_
    refine e_iload_n dX9_failsNext_10 rfl rfl ?_
    refine e_callV (As := [zI _]) (cb := 10) dX9_failsNext_11 moX9_finds mvX9_finds mlX9_230 (by decide) rfl hM.1.1 rfl (Nat.le_of_ble_eq_true rfl) ⟨by decide, by decide, by decide, by decide⟩ (c_X9_findsN hl hM.1 hN hI hO hC hK _ (by omega)) (fun E h1 q => by cases q.1) (fun v h1 q => ?_)
    obtain ⟨e1, hM1, hf, -⟩ := q; cases e1; have hM := MM_tr hM hM1; clear hM1
    refine e_if_eq (tgt := 21) dX9_failsNext_14 (by decide) b2_in (fun c14 => ?_) (fun c14 => ?_)
    · skip
      try simp only [b2_0, b2_n0] at c14
      refine e_iconst dX9_failsNext_21 ?_
      refine e_callV (As := [zI _]) (cb := 10) dX9_failsNext_22 moX9_fails mvX9_fails mlX9_135 (by decide) rfl hM.1.1 rfl (Nat.le_of_ble_eq_true rfl) ⟨by decide, by decide, by decide, by decide⟩ (c_X9_fails hl hM.1 _ (by omega)) (fun E h1 q => by cases q.1) (fun v h1 q => ?_)
      obtain ⟨e1, e2⟩ := q; cases e1; have ht := thr e2; have hM := MM_thr hM e2; have e43 : zf h1 1043 99 = _ := congrArg (fun z => zf z 1043 99) e2; have e44 : zf h1 1044 99 = _ := congrArg (fun z => zf z 1044 99) e2
      refine e_if_eq (tgt := 32) dX9_failsNext_25 (by decide) b2_in (fun c25 => ?_) (fun c25 => ?_)
      · skip
        try simp only [b2_0, b2_n0] at c25
        exfalso; omega
      · skip
        try simp only [b2_0, b2_n0] at c25
        refine e_iconst dX9_failsNext_28 ?_
        refine e_goto (tgt := 33) dX9_failsNext_29 (by decide) ?_
        refine e_iret dX9_failsNext_33 rfl (by first | exact Or.inl rfl | exact Or.inr rfl | assumption | exact b2_01) (by decide) (by decide) ?_
        first | exact absurd trivial c25 | exact ⟨hM, ht.trans (by first | (rw [if_neg (by omega), if_neg (by omega)]; done) | (rw [if_neg (by omega), if_pos (by omega)]; done) | (rw [if_pos (by omega), b2_t (by omega)]; done)), zqe (by first | exact (b2_t (by omega)).symm | exact (b2_f (by omega)).symm), fun z1 z2 => by first | (exfalso; omega) | exact ⟨e43.trans (hf z2).2.2.1, e44.trans (hf z2).2.2.2.1⟩⟩
    · skip
      try simp only [b2_0, b2_n0] at c14
      refine e_iconst dX9_failsNext_17 ?_
      refine e_goto (tgt := 22) dX9_failsNext_18 (by decide) ?_
      refine e_callV (As := [zI _]) (cb := 10) dX9_failsNext_22 moX9_fails mvX9_fails mlX9_135 (by decide) rfl hM.1.1 rfl (Nat.le_of_ble_eq_true rfl) ⟨by decide, by decide, by decide, by decide⟩ (c_X9_fails hl hM.1 _ (by omega)) (fun E h1 q => by cases q.1) (fun v h1 q => ?_)
      obtain ⟨e1, e2⟩ := q; cases e1; have ht := thr e2; have hM := MM_thr hM e2; have e43 : zf h1 1043 99 = _ := congrArg (fun z => zf z 1043 99) e2; have e44 : zf h1 1044 99 = _ := congrArg (fun z => zf z 1044 99) e2
      refine e_if_eq (tgt := 32) dX9_failsNext_25 (by decide) b2_in (fun c25 => ?_) (fun c25 => ?_)
      · skip
        try simp only [b2_0, b2_n0] at c25
        refine e_iconst dX9_failsNext_32 ?_
        refine e_iret dX9_failsNext_33 rfl (by first | exact Or.inl rfl | exact Or.inr rfl | assumption | exact b2_01) (by decide) (by decide) ?_
        first | exact absurd trivial c25 | exact ⟨hM, ht.trans (by first | (rw [if_neg (by omega), if_neg (by omega)]; done) | (rw [if_neg (by omega), if_pos (by omega)]; done) | (rw [if_pos (by omega), b2_t (by omega)]; done)), zqe (by first | exact (b2_t (by omega)).symm | exact (b2_f (by omega)).symm), fun z1 z2 => by first | (exfalso; omega) | exact ⟨e43.trans (hf z2).2.2.1, e44.trans (hf z2).2.2.2.1⟩⟩
      · skip
        try simp only [b2_0, b2_n0] at c25
        exfalso; omega
set_option maxHeartbeats 4000000 in
set_option maxRecDepth 100000 in
theorem c_X9_next {l : Launch} (hl : l.stackTraces = false) {S : S9} {h : zH} (hM : RM S h) (hN : IN S) (hI : IW S) (hO : IO S) (hC : IC S) (hK : IK S) (c : Int) (hc : zin c) : zC l MX9_next [zR (some 99), zI c] h (QM S h (if ¬ isC S c then 1 else if ¬ hasN S c then 2 else 0) (zI 0) (zI (bstC S c).1) S) := by
  refine zC_of hl rfl rfl (by decide) rfl rfl (Nat.le_of_ble_eq_true rfl) ?_
  have hM : MM S h h := MM_rf hM
  have hN2 := hN
  obtain ⟨n1, n2, n3, n4, n5⟩ := hN2
  refine e_aload_n dX9_next_0 rfl rfl ?_
  refine e_iload_n dX9_next_1 rfl rfl ?_
  refine e_callV (As := [zI _]) (cb := 10) dX9_next_2 moX9_failsNext mvX9_failsNext mlX9_233 (by decide) rfl hM.1.1 rfl (Nat.le_of_ble_eq_true rfl) ⟨by decide, by decide, by decide, by decide⟩ (c_X9_failsNext hl hM.1 hN hI hO hC hK _ hc) (fun E h1 q => by cases q.2.2.1) (fun v h1 q => ?_)
  obtain ⟨hM1, ht, e1, hv⟩ := q; cases e1; have hM := MM_tr hM hM1; clear hM1
  refine e_if_eq (tgt := 12) dX9_next_5 (by decide) b2_in (fun c5 => ?_) (fun c5 => ?_)
  · skip
    try simp only [b2_0, b2_n0] at c5
    have hv := hv (by omega) (by omega)
    have hk9 := (bst_ok (P := Pc S c) (R := Rc S c) (show hasN S c by omega)).1
    have hk8 := (bst_ok (P := Pc S c) (R := Rc S c) (show hasN S c by omega)).2
    have hk7 : 0 ≤ (bstC S c).1 ∧ (bstC S c).1 < 65536 := by
      unfold bstC
      rcases hk9 with z | z
      · omega
      · rcases z.2.1 with y | y | y <;> omega
    refine e_aload_n dX9_next_12 rfl rfl ?_
    refine m_getX 43 dX9_next_13 flX9_196 rfl hM hv.1 (fun r13 => ?_)
    refine e_iret dX9_next_16 rfl (by first | exact hk7 | exact ⟨by decide, by decide⟩) (by decide) (by decide) ?_
    first | exact ⟨ht, Or.inl ⟨by rw [if_neg (by omega), if_neg (by omega)], by rw [hv.1], hM⟩⟩ | exact ⟨ht, Or.inl ⟨by rw [if_neg (by omega), if_neg (by omega)], rfl, hM⟩⟩ | exact ⟨ht, Or.inr ⟨by split <;> (try split) <;> first | decide | (exfalso; omega), rfl, hM⟩⟩
  · skip
    try simp only [b2_0, b2_n0] at c5
    refine e_iconst dX9_next_8 ?_
    refine e_goto (tgt := 16) dX9_next_9 (by decide) ?_
    refine e_iret dX9_next_16 rfl (by first | exact hk7 | exact ⟨by decide, by decide⟩) (by decide) (by decide) ?_
    first | exact ⟨ht, Or.inl ⟨by rw [if_neg (by omega), if_neg (by omega)], by rw [hv.1], hM⟩⟩ | exact ⟨ht, Or.inl ⟨by rw [if_neg (by omega), if_neg (by omega)], rfl, hM⟩⟩ | exact ⟨ht, Or.inr ⟨by split <;> (try split) <;> first | decide | (exfalso; omega), rfl, hM⟩⟩
set_option maxHeartbeats 4000000 in
set_option maxRecDepth 100000 in
theorem c_X9_nextCost {l : Launch} (hl : l.stackTraces = false) {S : S9} {h : zH} (hM : RM S h) (hN : IN S) (hI : IW S) (hO : IO S) (hC : IC S) (hK : IK S) (c : Int) (hc : zin c) : zC l MX9_nextCost [zR (some 99), zI c] h (QM S h (if ¬ isC S c then 1 else if ¬ hasN S c then 2 else 0) (zI 0) (zI (bstC S c).2.1) S) := by
  refine zC_of hl rfl rfl (by decide) rfl rfl (Nat.le_of_ble_eq_true rfl) ?_
  have hM : MM S h h := MM_rf hM
  have hN2 := hN
  obtain ⟨n1, n2, n3, n4, n5⟩ := hN2
  refine e_aload_n dX9_nextCost_0 rfl rfl ?_
  refine e_iload_n dX9_nextCost_1 rfl rfl ?_
  refine e_callV (As := [zI _]) (cb := 10) dX9_nextCost_2 moX9_failsNext mvX9_failsNext mlX9_233 (by decide) rfl hM.1.1 rfl (Nat.le_of_ble_eq_true rfl) ⟨by decide, by decide, by decide, by decide⟩ (c_X9_failsNext hl hM.1 hN hI hO hC hK _ hc) (fun E h1 q => by cases q.2.2.1) (fun v h1 q => ?_)
  obtain ⟨hM1, ht, e1, hv⟩ := q; cases e1; have hM := MM_tr hM hM1; clear hM1
  refine e_if_eq (tgt := 12) dX9_nextCost_5 (by decide) b2_in (fun c5 => ?_) (fun c5 => ?_)
  · skip
    try simp only [b2_0, b2_n0] at c5
    have hv := hv (by omega) (by omega)
    refine e_aload_n dX9_nextCost_12 rfl rfl ?_
    refine m_getX 44 dX9_nextCost_13 flX9_190 rfl hM hv.2 (fun r13 => ?_)
    refine e_iret dX9_nextCost_16 rfl trivial (by decide) (by decide) ?_
    first | exact ⟨ht, Or.inl ⟨by rw [if_neg (by omega), if_neg (by omega)], by rw [hv.2], hM⟩⟩ | exact ⟨ht, Or.inl ⟨by rw [if_neg (by omega), if_neg (by omega)], rfl, hM⟩⟩ | exact ⟨ht, Or.inr ⟨by split <;> (try split) <;> first | decide | (exfalso; omega), rfl, hM⟩⟩
  · skip
    try simp only [b2_0, b2_n0] at c5
    refine e_iconst dX9_nextCost_8 ?_
    refine e_goto (tgt := 16) dX9_nextCost_9 (by decide) ?_
    refine e_iret dX9_nextCost_16 rfl trivial (by decide) (by decide) ?_
    first | exact ⟨ht, Or.inl ⟨by rw [if_neg (by omega), if_neg (by omega)], by rw [hv.2], hM⟩⟩ | exact ⟨ht, Or.inl ⟨by rw [if_neg (by omega), if_neg (by omega)], rfl, hM⟩⟩ | exact ⟨ht, Or.inr ⟨by split <;> (try split) <;> first | decide | (exfalso; omega), rfl, hM⟩⟩
set_option maxHeartbeats 4000000 in
set_option maxRecDepth 100000 in
theorem c_X9_changes {l : Launch} (hl : l.stackTraces = false) {S : S9} {h : zH} (hM : RM S h) {h0 : zH} {P R : Int → Int} {b : T6} {pl : Int} (hF : FB S R h0 h b pl) (c : Int) (hc : 0 ≤ c ∧ c < 6) (hP : ∀ q, S 40 (96 * c + q) = P q) (hp : 0 ≤ pl ∧ pl < 96) (hb : okT pl b) (hb0 : 3 ≤ b.2.1)  : zC l MX9_changes [zR (some 99), zI c] h (fun o h' => o = .inl none ∧ MM (chgS S c P R b pl) h0 h' ∧ zf h' 1000 99 = zf h0 1000 99) := by
  refine zC_of hl rfl rfl (by decide) rfl rfl (Nat.le_of_ble_eq_true rfl) ?_
  have hM : MM S h h := MM_rf hM
  obtain ⟨hM, hnow, f1, f2, f3, f4, f5, f6, f7, f8⟩ := hF
  have hb1 : (b.1 = 99 ∨ b.1 = 102 ∨ b.1 = 114) ∧ (1 ≤ b.2.2.2.1 ∧ b.2.2.2.1 ≤ 12 ∧ 1 ≤ b.2.2.2.2.1 ∧ b.2.2.2.2.1 ≤ 8) ∧ vld (pl % 12) (pl / 12) b.2.2.2.1 b.2.2.2.2.1 ∧ (b.1 = 99 → ∃ dx dy : Int, b.2.2.2.2.2 = dy * 12 + dx ∧ vld (pl % 12 + dx) (pl / 12 + dy) b.2.2.2.1 b.2.2.2.2.1) := by
    rcases hb with z | z
    · omega
    · exact z.2
  obtain ⟨hkd, hwt, hvl, hsrc⟩ := hb1
  have hwt1 := area_le hwt.1 hwt.2.1 hwt.2.2.1 hwt.2.2.2
  refine e_iconst dX9_changes_0 ?_
  refine e_istore_n dX9_changes_1 rfl (by decide) rfl rfl ?_
  have lp2 : ∀ (d : Nat) (i : Int) (h1 : zH), (96 - i).toNat < d → 0 ≤ i → i ≤ 96 → MM S h0 h1 → (∀ p, 0 ≤ p → p < 96 → za h1 141 p = R p) → (∀ p, 0 ≤ p → p < i → za h1 142 p = P p) → (∀ x, zf h1 x 99 = zf h x 99) → AW l MX9_changes (fun o h' => o = .inl none ∧ MM (chgS S c P R b pl) h0 h' ∧ zf h' 1000 99 = zf h0 1000 99) 0 0 2 [zR (some 99), zI c, zI i, zX] [] h1 := by
    intro d
    induction d with
    | zero => intro i h1 hd i0 i1 hM hnow hbef hz; exact absurd hd (by omega)
    | succ d ih =>
      have ih2 := ih
      intro i h1 hd i0 i1 hM hnow hbef hz
      refine e_iload_n dX9_changes_2 rfl rfl ?_
      refine e_bipush dX9_changes_3 (by decide) ?_
      refine e_icmp_ge (tgt := 31) dX9_changes_5 (by decide) (by omega) (by omega) (fun c5 => ?_) (fun c5 => ?_)
      · skip
        refine e_iconst dX9_changes_31 ?_
        refine e_istore_n dX9_changes_32 rfl (by decide) rfl rfl ?_
        have lp33 : ∀ (d : Nat) (k : Int) (h2 : zH), (b.2.2.2.1 * b.2.2.2.2.1 - k).toNat < d → 0 ≤ k → k ≤ b.2.2.2.1 * b.2.2.2.2.1 → MM (chgI S c P R b pl k) h0 h2 → (∀ p, 0 ≤ p → p < 96 → za h2 141 p = R p) → (∀ p, 0 ≤ p → p < 96 → za h2 142 p = P p) → (∀ x, zf h2 x 99 = zf h x 99) → AW l MX9_changes (fun o h' => o = .inl none ∧ MM (chgS S c P R b pl) h0 h' ∧ zf h' 1000 99 = zf h0 1000 99) 0 0 33 [zR (some 99), zI c, zI k, zX] [] h2 := by
          intro d
          induction d with
          | zero => intro k h2 hd k0 k1 hM hnow hbef hz; exact absurd hd (by omega)
          | succ d ih =>
            have ih33 := ih
            intro k h2 hd k0 k1 hM hnow hbef hz
            have g1 : 0 ≤ k % b.2.2.2.1 := Int.emod_nonneg _ (by omega)
            have g2 : k % b.2.2.2.1 < b.2.2.2.1 := Int.emod_lt_of_pos _ (by omega)
            have g3 : 0 ≤ k / b.2.2.2.1 := Int.ediv_nonneg k0 (by omega)
            have g4 : k < b.2.2.2.1 * b.2.2.2.2.1 → k / b.2.2.2.1 < b.2.2.2.2.1 := fun z => Int.ediv_lt_of_lt_mul (by omega) (by rw [Int.mul_comm]; exact z)
            have f1 := (hz 1043).trans f1
            have f2 := (hz 1044).trans f2
            have f4 := (hz 1047).trans f4
            have f5 := (hz 1048).trans f5
            have f6 := (hz 1049).trans f6
            have f7 := (hz 1046).trans f7
            refine e_iload_n dX9_changes_33 rfl rfl ?_
            refine e_aload_n dX9_changes_34 rfl rfl ?_
            refine m_getX 47 dX9_changes_35 flX9_200 rfl hM f4 (fun r35 => ?_)
            refine e_aload_n dX9_changes_38 rfl rfl ?_
            refine m_getX 48 dX9_changes_39 flX9_203 rfl hM f5 (fun r39 => ?_)
            refine e_imul dX9_changes_42 ?_
            refine e_icmp_ge (tgt := 135) dX9_changes_43 (by decide) (by omega) (by omega) (fun c43 => ?_) (fun c43 => ?_)
            · skip
              refine e_vret dX9_changes_135 rfl (by decide) (by decide) ?_
              exact ⟨rfl, by rw [show k = b.2.2.2.1 * b.2.2.2.2.1 by omega] at hM; exact hM, (hz 1000).trans f8.2⟩
            · skip
              have g5 := g4 (by omega)
              refine e_aload_n dX9_changes_46 rfl rfl ?_
              refine m_getX 46 dX9_changes_47 flX9_221 rfl hM f7 (fun r47 => ?_)
              refine e_iload_n dX9_changes_50 rfl rfl ?_
              refine e_aload_n dX9_changes_51 rfl rfl ?_
              refine m_getX 47 dX9_changes_52 flX9_200 rfl hM f4 (fun r52 => ?_)
              refine e_idiv dX9_changes_55 (by omega) (by omega) (by omega) (by omega) ?_
              refine e_bipush dX9_changes_56 (by decide) ?_
              refine e_imul dX9_changes_58 ?_
              refine e_iadd dX9_changes_59 ?_
              refine e_iload_n dX9_changes_60 rfl rfl ?_
              refine e_aload_n dX9_changes_61 rfl rfl ?_
              refine m_getX 47 dX9_changes_62 flX9_200 rfl hM f4 (fun r62 => ?_)
              refine e_irem dX9_changes_65 (by omega) (by omega) (by omega) (by omega) ?_
              refine e_iadd dX9_changes_66 ?_
              refine e_istore_n dX9_changes_67 rfl (by decide) rfl rfl ?_
              refine e_aload_n dX9_changes_68 rfl rfl ?_
              refine m_arr 40 dX9_changes_69 flX9_119 rfl hM (by decide) ?_
              refine e_bipush dX9_changes_72 (by decide) ?_
              refine e_iload_n dX9_changes_74 rfl rfl ?_
              refine e_imul dX9_changes_75 ?_
              refine e_iload_n dX9_changes_76 rfl rfl ?_
              refine e_iadd dX9_changes_77 ?_
              refine e_aload_n dX9_changes_78 rfl rfl ?_
              refine m_getX 43 dX9_changes_79 flX9_196 rfl hM f1 (fun r79 => ?_)
              refine e_bipush dX9_changes_82 (by decide) ?_
              refine e_icmp_ne (tgt := 101) dX9_changes_84 (by decide) (by omega) (by omega) (fun c84 => ?_) (fun c84 => ?_)
              · skip
                refine e_aload_n dX9_changes_101 rfl rfl ?_
                refine m_getX 43 dX9_changes_102 flX9_196 rfl hM f1 (fun r102 => ?_)
                refine e_bipush dX9_changes_105 (by decide) ?_
                refine e_icmp_ne (tgt := 122) dX9_changes_107 (by decide) (by omega) (by omega) (fun c107 => ?_) (fun c107 => ?_)
                · skip
                  refine e_aload_n dX9_changes_122 rfl rfl ?_
                  refine m_arr 41 dX9_changes_123 flX9_122 rfl hM (by decide) ?_
                  refine e_iload_n dX9_changes_126 rfl rfl ?_
                  refine m_ldX dX9_changes_127 hM (by decide) (by omega) (by omega) (hnow _ (by omega) (by omega)) (fun r127 => ?_)
                  refine m_st dX9_changes_128 hM (by decide) rfl (by omega) (by simp only [mL]; omega) (by omega) (fun hM => ?_)
                  refine e_iinc dX9_changes_129 (by decide) rfl rfl rfl rfl ?_
                  refine e_goto (tgt := 33) dX9_changes_132 (by decide) ?_
                  refine e_mask [true, true, true, false] ?_
                  refine ih33 _ _ (by omega) (by omega) (by omega) (MM_eq hM (fun f _ _ j => ?_)) hnow hbef hz
                  rw [chgI_s hp k0 hwt.1 hvl g5]
                  unfold colC
                  first | (rw [if_pos (by omega)]; done) | (rw [if_neg (by omega), if_pos (by omega)]; done) | (rw [if_neg (by omega), if_neg (by omega)]; done)
                · skip
                  refine e_aload_n dX9_changes_110 rfl rfl ?_
                  refine m_arr 41 dX9_changes_111 flX9_122 rfl hM (by decide) ?_
                  refine e_aload_n dX9_changes_114 rfl rfl ?_
                  refine m_getX 46 dX9_changes_115 flX9_221 rfl hM f7 (fun r115 => ?_)
                  refine m_ldX dX9_changes_118 hM (by decide) (by omega) (by omega) (hnow _ (by omega) (by omega)) (fun r118 => ?_)
                  refine e_goto (tgt := 128) dX9_changes_119 (by decide) ?_
                  refine m_st dX9_changes_128 hM (by decide) rfl (by omega) (by simp only [mL]; omega) (by omega) (fun hM => ?_)
                  refine e_iinc dX9_changes_129 (by decide) rfl rfl rfl rfl ?_
                  refine e_goto (tgt := 33) dX9_changes_132 (by decide) ?_
                  refine e_mask [true, true, true, false] ?_
                  refine ih33 _ _ (by omega) (by omega) (by omega) (MM_eq hM (fun f _ _ j => ?_)) hnow hbef hz
                  rw [chgI_s hp k0 hwt.1 hvl g5]
                  unfold colC
                  first | (rw [if_pos (by omega)]; done) | (rw [if_neg (by omega), if_pos (by omega)]; done) | (rw [if_neg (by omega), if_neg (by omega)]; done)
              · skip
                obtain ⟨dx, dy, s1, s2⟩ := hsrc (by omega)
                refine e_aload_n dX9_changes_87 rfl rfl ?_
                refine m_arr 42 dX9_changes_88 flX9_125 rfl hM (by decide) ?_
                refine e_iload_n dX9_changes_91 rfl rfl ?_
                refine e_aload_n dX9_changes_92 rfl rfl ?_
                refine m_getX 49 dX9_changes_93 flX9_206 rfl hM f6 (fun r93 => ?_)
                refine e_iadd dX9_changes_96 ?_
                refine m_ldX dX9_changes_97 hM (by decide) (by omega) (by omega) (hbef _ (by omega) (by omega)) (fun r97 => ?_)
                refine e_goto (tgt := 128) dX9_changes_98 (by decide) ?_
                refine m_st dX9_changes_128 hM (by decide) rfl (by omega) (by simp only [mL]; omega) (by omega) (fun hM => ?_)
                refine e_iinc dX9_changes_129 (by decide) rfl rfl rfl rfl ?_
                refine e_goto (tgt := 33) dX9_changes_132 (by decide) ?_
                refine e_mask [true, true, true, false] ?_
                refine ih33 _ _ (by omega) (by omega) (by omega) (MM_eq hM (fun f _ _ j => ?_)) hnow hbef hz
                rw [chgI_s hp k0 hwt.1 hvl g5]
                unfold colC
                first | (rw [if_pos (by omega)]; done) | (rw [if_neg (by omega), if_pos (by omega)]; done) | (rw [if_neg (by omega), if_neg (by omega)]; done)
        exact lp33 97 0 _ (by omega) (by omega) (by omega) (MM_eq hM (fun f _ _ j => chgI_0 hwt.1)) hnow (fun p p0 p1 => hbef p p0 (by omega)) hz
      · skip
        refine e_aload_n dX9_changes_8 rfl rfl ?_
        refine m_arr 42 dX9_changes_9 flX9_125 rfl hM (by decide) ?_
        refine e_iload_n dX9_changes_12 rfl rfl ?_
        refine e_aload_n dX9_changes_13 rfl rfl ?_
        refine m_arr 40 dX9_changes_14 flX9_119 rfl hM (by decide) ?_
        refine e_bipush dX9_changes_17 (by decide) ?_
        refine e_iload_n dX9_changes_19 rfl rfl ?_
        refine e_imul dX9_changes_20 ?_
        refine e_iload_n dX9_changes_21 rfl rfl ?_
        refine e_iadd dX9_changes_22 ?_
        refine m_ld dX9_changes_23 hM (by decide) rfl (by omega) (by simp only [mL]; omega) (hP i) (fun r23 => ?_)
        refine m_stX dX9_changes_24 hM (by decide) (by omega) (by omega) (by omega) (fun hM => ?_)
        refine e_iinc dX9_changes_25 (by decide) rfl rfl rfl rfl ?_
        refine e_goto (tgt := 2) dX9_changes_28 (by decide) ?_
        refine ih2 _ _ (by omega) (by omega) (by omega) hM hnow (fun p p0 p1 => ?_) hz
        show z3 (za h1) 142 i (P i) 142 p = P p
        unfold z3
        by_cases e : p = i
        · rw [if_pos ⟨rfl, e⟩, e]
        · rw [if_neg (fun z => e z.2)]
          exact hbef p p0 (by omega)
  exact lp2 97 0 _ (by omega) (by omega) (by omega) hM hnow (fun p p0 p1 => by omega) (fun _ => rfl)
