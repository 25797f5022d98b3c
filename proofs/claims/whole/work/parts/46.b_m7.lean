set_option maxHeartbeats 4000000 in
set_option maxRecDepth 100000 in
theorem c_X9_line {l : Launch} (hl : l.stackTraces = false) {S : S9} {h : zH} (hM : RM S h) (hJ : JJ S)  : zC l MX9_line [zR (some 99)] h (fun o h' => o = .inl (some (zI (24 - (lineS S 24 24).2))) ∧ MM (lineS S 24 24).1 h h' ∧ zf h' 1000 99 = zf h 1000 99) := by
  refine zC_of hl rfl rfl (by decide) rfl rfl (Nat.le_of_ble_eq_true rfl) ?_
  have hM : MM S h h := MM_rf hM
  refine e_bipush dX9_line_0 (by decide) ?_
  refine e_istore_n dX9_line_2 rfl (by decide) rfl rfl ?_
  refine e_iconst dX9_line_3 ?_
  refine e_istore_n dX9_line_4 rfl (by decide) rfl rfl ?_
  have lp5 : ∀ (d : Nat) (S1 : S9) (left g : Int) (fu : Nat) (h1 : zH), (2 * left + g).toNat < d → 0 ≤ left → left ≤ 24 → (g = 0 ∨ g = 1) → left ≤ fu → MM S1 h h1 → zf h1 1000 99 = zf h 1000 99 → JJ S1 → (g = 1 → lineS S1 left fu = lineS S 24 24) → (g = 0 → (S1, left) = lineS S 24 24) → AW l MX9_line (fun o h' => o = .inl (some (zI (24 - (lineS S 24 24).2))) ∧ MM (lineS S 24 24).1 h h' ∧ zf h' 1000 99 = zf h 1000 99) 0 0 5 [zR (some 99), zI left, zI g, zX, zX, zX] [] h1 := by
    intro d
    induction d with
    | zero => intro S1 left g fu h1 hd l0 l1 g01 lf hM ht hJ1 hg1 hg0; exact absurd hd (by omega)
    | succ d ih =>
      have ih5 := ih
      intro S1 left g fu h1 hd l0 l1 g01 lf hM ht hJ1 hg1 hg0
      have hN1 := hJ1.1
      obtain ⟨n1, n2, n3, n4, n5⟩ := hN1
      refine e_iload_n dX9_line_5 rfl rfl ?_
      refine e_if_eq (tgt := 156) dX9_line_6 (by decide) (by omega) (fun c6 => ?_) (fun c6 => ?_)
      · skip
        try simp only [b2_0, b2_n0] at c6
        refine e_bipush dX9_line_156 (by decide) ?_
        refine e_iload_n dX9_line_158 rfl rfl ?_
        refine e_isub dX9_line_159 ?_
        refine e_iret dX9_line_160 rfl trivial (by decide) (by decide) ?_
        exact ⟨zqe (by rw [← hg0 (by omega)]), by rw [← hg0 (by omega)]; exact hM, ht⟩
      · skip
        try simp only [b2_0, b2_n0] at c6
        refine e_iconst dX9_line_9 ?_
        refine e_istore_n dX9_line_10 rfl (by decide) rfl rfl ?_
        refine e_iconst dX9_line_11 ?_
        refine e_istore dX9_line_12 (by decide) rfl rfl ?_
        have lp14 : ∀ (d : Nat) (i ch : Int) (h2 : zH), (S1 2 0 - i).toNat < d → 0 ≤ i → i ≤ S1 2 0 → ch = chN S1 left i.toNat → MM S1 h h2 → zf h2 1000 99 = zf h 1000 99 → AW l MX9_line (fun o h' => o = .inl (some (zI (24 - (lineS S 24 24).2))) ∧ MM (lineS S 24 24).1 h h' ∧ zf h' 1000 99 = zf h 1000 99) 0 0 14 [zR (some 99), zI left, zI g, zI ch, zI i, zX] [] h2 := by
          intro d
          induction d with
          | zero => intro i ch h2 hd i0 i1 hch hM ht; exact absurd hd (by omega)
          | succ d ih =>
            have ih14 := ih
            intro i ch h2 hd i0 i1 hch hM ht
            have hci := chN_in S1 left i.toNat
            rw [← hch] at hci
            have hcs : chN S1 left (i + 1).toNat = if (ch < 0 ∨ S1 37 ch < S1 37 i) ∧ hasN S1 i ∧ (bstC S1 i).2.1 ≤ left then i else ch := by
              rw [show (i + 1).toNat = i.toNat + 1 by omega, chN_s, ← hch, show ((i.toNat : Nat) : Int) = i by omega]
            refine e_iload dX9_line_14 rfl ?_
            refine e_aload_n dX9_line_16 rfl rfl ?_
            refine m_get 2 dX9_line_17 flX9_174 rfl hM (by unfold mS; omega) rfl (fun r17 => ?_)
            refine e_icmp_ge (tgt := 85) dX9_line_20 (by decide) (by omega) (by omega) (fun c20 => ?_) (fun c20 => ?_)
            · skip
              refine e_iload_n dX9_line_85 rfl rfl ?_
              refine e_if_lt (tgt := 101) dX9_line_86 (by decide) (by omega) (fun c86 => ?_) (fun c86 => ?_)
              · skip
                have hch9 : ch = chN S1 left (S1 2 0).toNat := by rw [hch, show i = S1 2 0 by omega]
                refine e_iconst dX9_line_101 ?_
                refine e_istore_n dX9_line_102 rfl (by decide) rfl rfl ?_
                refine e_iload_n dX9_line_103 rfl rfl ?_
                refine e_if_eq (tgt := 153) dX9_line_104 (by decide) (by omega) (fun c104 => ?_) (fun c104 => ?_)
                · skip
                  have hs0 : (S1, left) = lineS S 24 24 := by
                    rcases g01 with z | z
                    · exact hg0 z
                    · rw [← hg1 z]
                      rcases Nat.eq_zero_or_pos fu with y | y
                      · rw [y]
                        rfl
                      · rw [show fu = (fu - 1) + 1 by omega, lineS_s, ← hch9, if_pos (by omega)]
                  refine e_goto (tgt := 5) dX9_line_153 (by decide) ?_
                  first
                    | (refine e_mask [true, true, true, false, false, false] ?_
                       exact ih5 _ _ _ (fu - 1) _ (by omega) (by omega) (by omega) (Or.inr rfl) (by omega) hM ht hJ2 (fun _ => hs9) (fun z => absurd z (by decide)))
                    | (refine e_mask [true, true, true, false, false, false] ?_
                       exact ih5 _ _ _ fu _ (by omega) (by omega) (by omega) (Or.inl rfl) (by omega) hM ht hJ1 (fun z => absurd z (by decide)) (fun _ => hs0))
                · skip
                  exfalso; omega
              · skip
                have hch9 : ch = chN S1 left (S1 2 0).toNat := by rw [hch, show i = S1 2 0 by omega]
                have hf9 : True := trivial
                refine e_aload_n dX9_line_89 rfl rfl ?_
                refine e_iload_n dX9_line_90 rfl rfl ?_
                refine e_callV (As := [zI _]) (cb := 10) dX9_line_91 moX9_finds mvX9_finds mlX9_230 (by decide) rfl hM.1.1 rfl (Nat.le_of_ble_eq_true rfl) ⟨by decide, by decide, by decide, by decide⟩ (c_X9_findsN hl hM.1 hJ1.1 hJ1.2.1 hJ1.2.2.1 hJ1.2.2.2.1 hJ1.2.2.2.2 _ (by omega)) (fun E h1 q => by cases q.1) (fun v h1 q => ?_)
                obtain ⟨e1, hM1, hf, ht1⟩ := q; cases e1; have hM := MM_tr hM hM1; have ht : zf h1 1000 99 = _ := ht1.trans ht
                refine e_if_eq (tgt := 101) dX9_line_94 (by decide) b2_in (fun c94 => ?_) (fun c94 => ?_)
                · skip
                  try simp only [b2_0, b2_n0] at c94
                  refine e_iconst dX9_line_101 ?_
                  refine e_istore_n dX9_line_102 rfl (by decide) rfl rfl ?_
                  refine e_iload_n dX9_line_103 rfl rfl ?_
                  refine e_if_eq (tgt := 153) dX9_line_104 (by decide) (by omega) (fun c104 => ?_) (fun c104 => ?_)
                  · skip
                    have hs0 : (S1, left) = lineS S 24 24 := by
                      rcases g01 with z | z
                      · exact hg0 z
                      · rw [← hg1 z]
                        rcases Nat.eq_zero_or_pos fu with y | y
                        · rw [y]
                          rfl
                        · rw [show fu = (fu - 1) + 1 by omega, lineS_s, ← hch9, if_pos (by omega)]
                    refine e_goto (tgt := 5) dX9_line_153 (by decide) ?_
                    first
                      | (refine e_mask [true, true, true, false, false, false] ?_
                         exact ih5 _ _ _ (fu - 1) _ (by omega) (by omega) (by omega) (Or.inr rfl) (by omega) hM ht hJ2 (fun _ => hs9) (fun z => absurd z (by decide)))
                      | (refine e_mask [true, true, true, false, false, false] ?_
                         exact ih5 _ _ _ fu _ (by omega) (by omega) (by omega) (Or.inl rfl) (by omega) hM ht hJ1 (fun z => absurd z (by decide)) (fun _ => hs0))
                  · skip
                    exfalso; omega
                · skip
                  try simp only [b2_0, b2_n0] at c94
                  refine e_iconst dX9_line_97 ?_
                  refine e_goto (tgt := 102) dX9_line_98 (by decide) ?_
                  refine e_istore_n dX9_line_102 rfl (by decide) rfl rfl ?_
                  refine e_iload_n dX9_line_103 rfl rfl ?_
                  refine e_if_eq (tgt := 153) dX9_line_104 (by decide) (by omega) (fun c104 => ?_) (fun c104 => ?_)
                  · skip
                    exfalso; omega
                  · skip
                    have hf9 := hf (by omega)
                    have hk9 := bstC_ok (S := S1) (c := ch) (by omega)
                    have g9 : g = 1 := by omega
                    have hs9 : lineS (sendS S1 ch) (left - (bstC S1 ch).2.1) (fu - 1) = lineS S 24 24 := by
                      rw [← hg1 g9, show fu = (fu - 1) + 1 by omega, lineS_s, ← hch9, if_neg (by omega)]
                      rfl
                    have hJ2 : JJ (sendS S1 ch) := JJ_ag (fun f hf j => sendS_f (by unfold jF at hf; omega)) hJ1
                    refine e_iload_n dX9_line_107 rfl rfl ?_
                    refine e_aload_n dX9_line_108 rfl rfl ?_
                    refine m_getX 44 dX9_line_109 flX9_190 rfl hM hf9.2.2.2.1 (fun r109 => ?_)
                    refine e_isub dX9_line_112 ?_
                    refine e_istore_n dX9_line_113 rfl (by decide) rfl rfl ?_
                    refine e_aload_n dX9_line_114 rfl rfl ?_
                    refine m_arr 37 dX9_line_115 flX9_110 rfl hM (by decide) ?_
                    refine e_iload_n dX9_line_118 rfl rfl ?_
                    refine e_aload_n dX9_line_119 rfl rfl ?_
                    refine m_arr 37 dX9_line_120 flX9_110 rfl hM (by decide) ?_
                    refine e_iload_n dX9_line_123 rfl rfl ?_
                    refine m_ld dX9_line_124 hM (by decide) rfl (by omega) (by simp only [mL]; omega) rfl (fun r124 => ?_)
                    refine e_aload_n dX9_line_125 rfl rfl ?_
                    refine m_getX 44 dX9_line_126 flX9_190 rfl hM hf9.2.2.2.1 (fun r126 => ?_)
                    refine e_icmp_le (tgt := 146) dX9_line_129 (by decide) (by omega) (by omega) (fun c129 => ?_) (fun c129 => ?_)
                    · skip
                      refine e_iconst dX9_line_146 ?_
                      refine m_st dX9_line_147 hM (by decide) rfl (by omega) (by simp only [mL]; omega) (by omega) (fun hM => ?_)
                      first
                        | (have e9 : payS S1 ch = up S1 37 ch (S1 37 ch - (bstC S1 ch).2.1) := (by
                            unfold payS
                            rw [if_pos (by omega)])
                           rw [← e9] at hM)
                        | (have e9 : payS S1 ch = up S1 37 ch 0 := (by
                            unfold payS
                            rw [if_neg (by omega)])
                           rw [← e9] at hM)
                      refine e_aload_n dX9_line_148 rfl rfl ?_
                      refine e_iload_n dX9_line_149 rfl rfl ?_
                      refine e_callV (As := [zI _]) (cb := 10) dX9_line_150 moX9_changes mvX9_changes mlX9_236 (by decide) rfl hM.1.1 rfl (Nat.le_of_ble_eq_true rfl) ⟨by decide, by decide, by decide, by decide⟩ (c_X9_changes hl hM.1 (h0 := h) (P := Pc S1 ch) (R := Rc S1 ch) (b := bstC S1 ch) (pl := fstC S1 ch) ⟨hM, fun p a b => hf9.2.1 p a b, hf9.2.2.1, hf9.2.2.2.1, hf9.2.2.2.2.1, hf9.2.2.2.2.2.1, hf9.2.2.2.2.2.2.1, hf9.2.2.2.2.2.2.2.1, hf9.2.2.2.2.2.2.2.2.1, hf9.2.2.2.2.2.2.2.2.2.1, ht⟩ ch (by omega) (fun q => up_f (by decide)) (by have := fst9_in (Pc S1 ch) (Rc S1 ch); unfold fstC; omega) hk9.1 hk9.2.1) (fun E h1 q => by cases q.1) (fun v h1 q => ?_)
                      obtain ⟨e1, hM, ht⟩ := q; cases e1; have hM : MM (sendS S1 ch) h h1 := hM
                      refine e_goto (tgt := 5) dX9_line_153 (by decide) ?_
                      first
                        | (refine e_mask [true, true, true, false, false, false] ?_
                           exact ih5 _ _ _ (fu - 1) _ (by omega) (by omega) (by omega) (Or.inr rfl) (by omega) hM ht hJ2 (fun _ => hs9) (fun z => absurd z (by decide)))
                        | (refine e_mask [true, true, true, false, false, false] ?_
                           exact ih5 _ _ _ fu _ (by omega) (by omega) (by omega) (Or.inl rfl) (by omega) hM ht hJ1 (fun z => absurd z (by decide)) (fun _ => hs0))
                    · skip
                      refine e_aload_n dX9_line_132 rfl rfl ?_
                      refine m_arr 37 dX9_line_133 flX9_110 rfl hM (by decide) ?_
                      refine e_iload_n dX9_line_136 rfl rfl ?_
                      refine m_ld dX9_line_137 hM (by decide) rfl (by omega) (by simp only [mL]; omega) rfl (fun r137 => ?_)
                      refine e_aload_n dX9_line_138 rfl rfl ?_
                      refine m_getX 44 dX9_line_139 flX9_190 rfl hM hf9.2.2.2.1 (fun r139 => ?_)
                      refine e_isub dX9_line_142 ?_
                      refine e_goto (tgt := 147) dX9_line_143 (by decide) ?_
                      refine m_st dX9_line_147 hM (by decide) rfl (by omega) (by simp only [mL]; omega) (by omega) (fun hM => ?_)
                      first
                        | (have e9 : payS S1 ch = up S1 37 ch (S1 37 ch - (bstC S1 ch).2.1) := (by
                            unfold payS
                            rw [if_pos (by omega)])
                           rw [← e9] at hM)
                        | (have e9 : payS S1 ch = up S1 37 ch 0 := (by
                            unfold payS
                            rw [if_neg (by omega)])
                           rw [← e9] at hM)
                      refine e_aload_n dX9_line_148 rfl rfl ?_
                      refine e_iload_n dX9_line_149 rfl rfl ?_
                      refine e_callV (As := [zI _]) (cb := 10) dX9_line_150 moX9_changes mvX9_changes mlX9_236 (by decide) rfl hM.1.1 rfl (Nat.le_of_ble_eq_true rfl) ⟨by decide, by decide, by decide, by decide⟩ (c_X9_changes hl hM.1 (h0 := h) (P := Pc S1 ch) (R := Rc S1 ch) (b := bstC S1 ch) (pl := fstC S1 ch) ⟨hM, fun p a b => hf9.2.1 p a b, hf9.2.2.1, hf9.2.2.2.1, hf9.2.2.2.2.1, hf9.2.2.2.2.2.1, hf9.2.2.2.2.2.2.1, hf9.2.2.2.2.2.2.2.1, hf9.2.2.2.2.2.2.2.2.1, hf9.2.2.2.2.2.2.2.2.2.1, ht⟩ ch (by omega) (fun q => up_f (by decide)) (by have := fst9_in (Pc S1 ch) (Rc S1 ch); unfold fstC; omega) hk9.1 hk9.2.1) (fun E h1 q => by cases q.1) (fun v h1 q => ?_)
                      obtain ⟨e1, hM, ht⟩ := q; cases e1; have hM : MM (sendS S1 ch) h h1 := hM
                      refine e_goto (tgt := 5) dX9_line_153 (by decide) ?_
                      first
                        | (refine e_mask [true, true, true, false, false, false] ?_
                           exact ih5 _ _ _ (fu - 1) _ (by omega) (by omega) (by omega) (Or.inr rfl) (by omega) hM ht hJ2 (fun _ => hs9) (fun z => absurd z (by decide)))
                        | (refine e_mask [true, true, true, false, false, false] ?_
                           exact ih5 _ _ _ fu _ (by omega) (by omega) (by omega) (Or.inl rfl) (by omega) hM ht hJ1 (fun z => absurd z (by decide)) (fun _ => hs0))
            · skip
              refine e_iload_n dX9_line_23 rfl rfl ?_
              refine e_if_lt (tgt := 43) dX9_line_24 (by decide) (by omega) (fun c24 => ?_) (fun c24 => ?_)
              · skip
                refine e_iconst dX9_line_43 ?_
                refine e_goto (tgt := 48) dX9_line_44 (by decide) ?_
                refine e_istore dX9_line_48 (by decide) rfl rfl ?_
                refine e_iload dX9_line_50 rfl ?_
                refine e_if_eq (tgt := 77) dX9_line_52 (by decide) (by omega) (fun c52 => ?_) (fun c52 => ?_)
                · skip
                  exfalso; omega
                · skip
                  refine e_aload_n dX9_line_55 rfl rfl ?_
                  refine e_iload dX9_line_56 rfl ?_
                  refine e_callV (As := [zI _]) (cb := 10) dX9_line_58 moX9_finds mvX9_finds mlX9_230 (by decide) rfl hM.1.1 rfl (Nat.le_of_ble_eq_true rfl) ⟨by decide, by decide, by decide, by decide⟩ (c_X9_findsN hl hM.1 hJ1.1 hJ1.2.1 hJ1.2.2.1 hJ1.2.2.2.1 hJ1.2.2.2.2 _ (by omega)) (fun E h1 q => by cases q.1) (fun v h1 q => ?_)
                  obtain ⟨e1, hM1, hf, ht1⟩ := q; cases e1; have hM := MM_tr hM hM1; have ht : zf h1 1000 99 = _ := ht1.trans ht
                  refine e_if_eq (tgt := 77) dX9_line_61 (by decide) b2_in (fun c61 => ?_) (fun c61 => ?_)
                  · skip
                    try simp only [b2_0, b2_n0] at c61
                    refine e_iload_n dX9_line_77 rfl rfl ?_
                    refine e_istore_n dX9_line_78 rfl (by decide) rfl rfl ?_
                    refine e_iinc dX9_line_79 (by decide) rfl rfl rfl rfl ?_
                    refine e_goto (tgt := 14) dX9_line_82 (by decide) ?_
                    refine e_mask [true, true, true, true, true, false] ?_
                    exact ih14 _ _ _ (by omega) (by omega) (by omega) (by rw [hcs]; first | (rw [if_pos (by omega)]; done) | (rw [if_neg (by omega)]; done)) hM ht
                  · skip
                    try simp only [b2_0, b2_n0] at c61
                    have hf9 := hf (by omega)
                    have hk9 := bstC_ok (S := S1) (c := i) (by omega)
                    refine e_aload_n dX9_line_64 rfl rfl ?_
                    refine m_getX 44 dX9_line_65 flX9_190 rfl hM hf9.2.2.2.1 (fun r65 => ?_)
                    refine e_iload_n dX9_line_68 rfl rfl ?_
                    refine e_icmp_gt (tgt := 77) dX9_line_69 (by decide) (by omega) (by omega) (fun c69 => ?_) (fun c69 => ?_)
                    · skip
                      refine e_iload_n dX9_line_77 rfl rfl ?_
                      refine e_istore_n dX9_line_78 rfl (by decide) rfl rfl ?_
                      refine e_iinc dX9_line_79 (by decide) rfl rfl rfl rfl ?_
                      refine e_goto (tgt := 14) dX9_line_82 (by decide) ?_
                      refine e_mask [true, true, true, true, true, false] ?_
                      exact ih14 _ _ _ (by omega) (by omega) (by omega) (by rw [hcs]; first | (rw [if_pos (by omega)]; done) | (rw [if_neg (by omega)]; done)) hM ht
                    · skip
                      refine e_iload dX9_line_72 rfl ?_
                      refine e_goto (tgt := 78) dX9_line_74 (by decide) ?_
                      refine e_istore_n dX9_line_78 rfl (by decide) rfl rfl ?_
                      refine e_iinc dX9_line_79 (by decide) rfl rfl rfl rfl ?_
                      refine e_goto (tgt := 14) dX9_line_82 (by decide) ?_
                      refine e_mask [true, true, true, true, true, false] ?_
                      exact ih14 _ _ _ (by omega) (by omega) (by omega) (by rw [hcs]; first | (rw [if_pos (by omega)]; done) | (rw [if_neg (by omega)]; done)) hM ht
              · skip
                refine e_aload_n dX9_line_27 rfl rfl ?_
                refine m_arr 37 dX9_line_28 flX9_110 rfl hM (by decide) ?_
                refine e_iload dX9_line_31 rfl ?_
                refine m_ld dX9_line_33 hM (by decide) rfl (by omega) (by simp only [mL]; omega) rfl (fun r33 => ?_)
                refine e_aload_n dX9_line_34 rfl rfl ?_
                refine m_arr 37 dX9_line_35 flX9_110 rfl hM (by decide) ?_
                refine e_iload_n dX9_line_38 rfl rfl ?_
                refine m_ld dX9_line_39 hM (by decide) rfl (by omega) (by simp only [mL]; omega) rfl (fun r39 => ?_)
                refine e_icmp_le (tgt := 47) dX9_line_40 (by decide) (by omega) (by omega) (fun c40 => ?_) (fun c40 => ?_)
                · skip
                  refine e_iconst dX9_line_47 ?_
                  refine e_istore dX9_line_48 (by decide) rfl rfl ?_
                  refine e_iload dX9_line_50 rfl ?_
                  refine e_if_eq (tgt := 77) dX9_line_52 (by decide) (by omega) (fun c52 => ?_) (fun c52 => ?_)
                  · skip
                    refine e_iload_n dX9_line_77 rfl rfl ?_
                    refine e_istore_n dX9_line_78 rfl (by decide) rfl rfl ?_
                    refine e_iinc dX9_line_79 (by decide) rfl rfl rfl rfl ?_
                    refine e_goto (tgt := 14) dX9_line_82 (by decide) ?_
                    refine e_mask [true, true, true, true, true, false] ?_
                    exact ih14 _ _ _ (by omega) (by omega) (by omega) (by rw [hcs]; first | (rw [if_pos (by omega)]; done) | (rw [if_neg (by omega)]; done)) hM ht
                  · skip
                    exfalso; omega
                · skip
                  refine e_iconst dX9_line_43 ?_
                  refine e_goto (tgt := 48) dX9_line_44 (by decide) ?_
                  refine e_istore dX9_line_48 (by decide) rfl rfl ?_
                  refine e_iload dX9_line_50 rfl ?_
                  refine e_if_eq (tgt := 77) dX9_line_52 (by decide) (by omega) (fun c52 => ?_) (fun c52 => ?_)
                  · skip
                    exfalso; omega
                  · skip
                    refine e_aload_n dX9_line_55 rfl rfl ?_
                    refine e_iload dX9_line_56 rfl ?_
                    refine e_callV (As := [zI _]) (cb := 10) dX9_line_58 moX9_finds mvX9_finds mlX9_230 (by decide) rfl hM.1.1 rfl (Nat.le_of_ble_eq_true rfl) ⟨by decide, by decide, by decide, by decide⟩ (c_X9_findsN hl hM.1 hJ1.1 hJ1.2.1 hJ1.2.2.1 hJ1.2.2.2.1 hJ1.2.2.2.2 _ (by omega)) (fun E h1 q => by cases q.1) (fun v h1 q => ?_)
                    obtain ⟨e1, hM1, hf, ht1⟩ := q; cases e1; have hM := MM_tr hM hM1; have ht : zf h1 1000 99 = _ := ht1.trans ht
                    refine e_if_eq (tgt := 77) dX9_line_61 (by decide) b2_in (fun c61 => ?_) (fun c61 => ?_)
                    · skip
                      try simp only [b2_0, b2_n0] at c61
                      refine e_iload_n dX9_line_77 rfl rfl ?_
                      refine e_istore_n dX9_line_78 rfl (by decide) rfl rfl ?_
                      refine e_iinc dX9_line_79 (by decide) rfl rfl rfl rfl ?_
                      refine e_goto (tgt := 14) dX9_line_82 (by decide) ?_
                      refine e_mask [true, true, true, true, true, false] ?_
                      exact ih14 _ _ _ (by omega) (by omega) (by omega) (by rw [hcs]; first | (rw [if_pos (by omega)]; done) | (rw [if_neg (by omega)]; done)) hM ht
                    · skip
                      try simp only [b2_0, b2_n0] at c61
                      have hf9 := hf (by omega)
                      have hk9 := bstC_ok (S := S1) (c := i) (by omega)
                      refine e_aload_n dX9_line_64 rfl rfl ?_
                      refine m_getX 44 dX9_line_65 flX9_190 rfl hM hf9.2.2.2.1 (fun r65 => ?_)
                      refine e_iload_n dX9_line_68 rfl rfl ?_
                      refine e_icmp_gt (tgt := 77) dX9_line_69 (by decide) (by omega) (by omega) (fun c69 => ?_) (fun c69 => ?_)
                      · skip
                        refine e_iload_n dX9_line_77 rfl rfl ?_
                        refine e_istore_n dX9_line_78 rfl (by decide) rfl rfl ?_
                        refine e_iinc dX9_line_79 (by decide) rfl rfl rfl rfl ?_
                        refine e_goto (tgt := 14) dX9_line_82 (by decide) ?_
                        refine e_mask [true, true, true, true, true, false] ?_
                        exact ih14 _ _ _ (by omega) (by omega) (by omega) (by rw [hcs]; first | (rw [if_pos (by omega)]; done) | (rw [if_neg (by omega)]; done)) hM ht
                      · skip
                        refine e_iload dX9_line_72 rfl ?_
                        refine e_goto (tgt := 78) dX9_line_74 (by decide) ?_
                        refine e_istore_n dX9_line_78 rfl (by decide) rfl rfl ?_
                        refine e_iinc dX9_line_79 (by decide) rfl rfl rfl rfl ?_
                        refine e_goto (tgt := 14) dX9_line_82 (by decide) ?_
                        refine e_mask [true, true, true, true, true, false] ?_
                        exact ih14 _ _ _ (by omega) (by omega) (by omega) (by rw [hcs]; first | (rw [if_pos (by omega)]; done) | (rw [if_neg (by omega)]; done)) hM ht
        exact lp14 7 0 (-1) _ (by omega) (by omega) (by omega) rfl hM ht
  exact lp5 50 S 24 1 24 _ (by omega) (by omega) (by omega) (Or.inr rfl) (by omega) hM rfl hJ (fun _ => rfl) (fun z => absurd z (by decide))
