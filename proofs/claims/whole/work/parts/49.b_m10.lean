set_option maxHeartbeats 4000000 in
set_option maxRecDepth 100000 in
theorem c_X9_paste {l : Launch} (hl : l.stackTraces = false) {S : S9} {h : zH} (hM : RM S h) (hN : IN S) (a b : Int) (ha : zin a) (hb : zin b) (hq : ∀ s, 0 ≤ s → s < 4 → 0 ≤ S 22 s ∧ S 22 s ≤ 3) : zC l MX9_paste [zR (some 99), zI a, zI b] h (QM S h (if ¬ (isS S a ∧ isS S b) ∨ a = b then 1 else if S 22 a = 0 then 2 else if mayN S a b 4 = 0 then 3 else 0) (zI 0) (zI (S 23 a)) (pasS S a b)) := by
  refine zC_of hl rfl rfl (by decide) rfl rfl (Nat.le_of_ble_eq_true rfl) ?_
  have hM : MM S h h := MM_rf hM
  have hN2 := hN
  obtain ⟨n1, n2, n3, n4, n5⟩ := hN2
  refine e_aload_n dX9_paste_0 rfl rfl ?_
  refine e_aload_n dX9_paste_1 rfl rfl ?_
  refine e_iload_n dX9_paste_2 rfl rfl ?_
  refine e_callV (As := [zI _]) (cb := 10) dX9_paste_3 moX9_isSession mvX9_isSession mlX9_143 (by decide) rfl hM.1.1 rfl (Nat.le_of_ble_eq_true rfl) ⟨by decide, by decide, by decide, by decide⟩ (c_X9_isSession hl hM.1 hN _ ha) (fun E h1 q => by cases q.1) (fun v h9 q => ?_)
  obtain ⟨e1, e2⟩ := q; cases e1; rw [e2]; clear e2 h9
  refine e_if_eq (tgt := 22) dX9_paste_6 (by decide) b2_in (fun c6 => ?_) (fun c6 => ?_)
  · skip
    try simp only [b2_0, b2_n0] at c6
    refine e_iconst dX9_paste_22 ?_
    refine e_goto (tgt := 40) dX9_paste_23 (by decide) ?_
    refine e_callV (As := [zI _]) (cb := 10) dX9_paste_40 moX9_fails mvX9_fails mlX9_135 (by decide) rfl hM.1.1 rfl (Nat.le_of_ble_eq_true rfl) ⟨by decide, by decide, by decide, by decide⟩ (c_X9_fails hl hM.1 _ (by first | omega | exact b2_in)) (fun E h1 q => by cases q.1) (fun v h1 q => ?_)
    obtain ⟨e1, e2⟩ := q; cases e1; have ht := thr e2; have hM := MM_thr hM e2
    refine e_if_eq (tgt := 48) dX9_paste_43 (by decide) b2_in (fun c43 => ?_) (fun c43 => ?_)
    · skip
      try simp only [b2_0, b2_n0] at c43
      exfalso; omega
    · skip
      try simp only [b2_0, b2_n0] at c43
      refine e_iconst dX9_paste_46 ?_
      refine e_iret dX9_paste_47 rfl trivial (by decide) (by decide) ?_
      first | (exfalso; omega; done) | exact QM_no (ht.trans (b2_t (by omega))) (by first | (rw [if_pos (by omega)]; done) | (rw [if_neg (by omega), if_pos (by omega)]; done) | (rw [if_neg (by omega), if_neg (by omega), if_pos (by omega)]; done) | (rw [if_neg (by omega), if_neg (by omega), if_neg (by omega), if_pos (by omega)]; done)) (by decide) hM | exact QM_no ht (by first | (rw [if_pos (by omega)]; done) | (rw [if_neg (by omega), if_pos (by omega)]; done) | (rw [if_neg (by omega), if_neg (by omega), if_pos (by omega)]; done) | (rw [if_neg (by omega), if_neg (by omega), if_neg (by omega), if_pos (by omega)]; done)) (by decide) hM | exact QM_ok (ht.trans (b2_f (by omega))) (by first | (rw [if_neg (by omega)]; done) | (rw [if_neg (by omega), if_neg (by omega)]; done) | (rw [if_neg (by omega), if_neg (by omega), if_neg (by omega)]; done) | (rw [if_neg (by omega), if_neg (by omega), if_neg (by omega), if_neg (by omega)]; done)) rfl hM | exact QM_ok ht (by first | (rw [if_neg (by omega)]; done) | (rw [if_neg (by omega), if_neg (by omega)]; done) | (rw [if_neg (by omega), if_neg (by omega), if_neg (by omega)]; done) | (rw [if_neg (by omega), if_neg (by omega), if_neg (by omega), if_neg (by omega)]; done)) rfl hM
  · skip
    try simp only [b2_0, b2_n0] at c6
    refine e_aload_n dX9_paste_9 rfl rfl ?_
    refine e_iload_n dX9_paste_10 rfl rfl ?_
    refine e_callV (As := [zI _]) (cb := 10) dX9_paste_11 moX9_isSession mvX9_isSession mlX9_143 (by decide) rfl hM.1.1 rfl (Nat.le_of_ble_eq_true rfl) ⟨by decide, by decide, by decide, by decide⟩ (c_X9_isSession hl hM.1 hN _ hb) (fun E h1 q => by cases q.1) (fun v h9 q => ?_)
    obtain ⟨e1, e2⟩ := q; cases e1; rw [e2]; clear e2 h9
    refine e_if_eq (tgt := 22) dX9_paste_14 (by decide) b2_in (fun c14 => ?_) (fun c14 => ?_)
    · skip
      try simp only [b2_0, b2_n0] at c14
      refine e_iconst dX9_paste_22 ?_
      refine e_goto (tgt := 40) dX9_paste_23 (by decide) ?_
      refine e_callV (As := [zI _]) (cb := 10) dX9_paste_40 moX9_fails mvX9_fails mlX9_135 (by decide) rfl hM.1.1 rfl (Nat.le_of_ble_eq_true rfl) ⟨by decide, by decide, by decide, by decide⟩ (c_X9_fails hl hM.1 _ (by first | omega | exact b2_in)) (fun E h1 q => by cases q.1) (fun v h1 q => ?_)
      obtain ⟨e1, e2⟩ := q; cases e1; have ht := thr e2; have hM := MM_thr hM e2
      refine e_if_eq (tgt := 48) dX9_paste_43 (by decide) b2_in (fun c43 => ?_) (fun c43 => ?_)
      · skip
        try simp only [b2_0, b2_n0] at c43
        exfalso; omega
      · skip
        try simp only [b2_0, b2_n0] at c43
        refine e_iconst dX9_paste_46 ?_
        refine e_iret dX9_paste_47 rfl trivial (by decide) (by decide) ?_
        first | (exfalso; omega; done) | exact QM_no (ht.trans (b2_t (by omega))) (by first | (rw [if_pos (by omega)]; done) | (rw [if_neg (by omega), if_pos (by omega)]; done) | (rw [if_neg (by omega), if_neg (by omega), if_pos (by omega)]; done) | (rw [if_neg (by omega), if_neg (by omega), if_neg (by omega), if_pos (by omega)]; done)) (by decide) hM | exact QM_no ht (by first | (rw [if_pos (by omega)]; done) | (rw [if_neg (by omega), if_pos (by omega)]; done) | (rw [if_neg (by omega), if_neg (by omega), if_pos (by omega)]; done) | (rw [if_neg (by omega), if_neg (by omega), if_neg (by omega), if_pos (by omega)]; done)) (by decide) hM | exact QM_ok (ht.trans (b2_f (by omega))) (by first | (rw [if_neg (by omega)]; done) | (rw [if_neg (by omega), if_neg (by omega)]; done) | (rw [if_neg (by omega), if_neg (by omega), if_neg (by omega)]; done) | (rw [if_neg (by omega), if_neg (by omega), if_neg (by omega), if_neg (by omega)]; done)) rfl hM | exact QM_ok ht (by first | (rw [if_neg (by omega)]; done) | (rw [if_neg (by omega), if_neg (by omega)]; done) | (rw [if_neg (by omega), if_neg (by omega), if_neg (by omega)]; done) | (rw [if_neg (by omega), if_neg (by omega), if_neg (by omega), if_neg (by omega)]; done)) rfl hM
    · skip
      try simp only [b2_0, b2_n0] at c14
      refine e_iload_n dX9_paste_17 rfl rfl ?_
      refine e_iload_n dX9_paste_18 rfl rfl ?_
      refine e_icmp_ne (tgt := 26) dX9_paste_19 (by decide) (by omega) (by omega) (fun c19 => ?_) (fun c19 => ?_)
      · skip
        refine e_aload_n dX9_paste_26 rfl rfl ?_
        refine m_arr 22 dX9_paste_27 flX9_65 rfl hM (by decide) ?_
        refine e_iload_n dX9_paste_30 rfl rfl ?_
        refine m_ld dX9_paste_31 hM (by decide) rfl (by omega) (by simp only [mL]; omega) (by (try simp (disch := omega) only [up_f, up_i, up_eq, tkO_16, tkO_f, pasI_f]); rfl) (fun r31 => ?_)
        refine e_if_ne (tgt := 39) dX9_paste_32 (by decide) (by omega) (fun c32 => ?_) (fun c32 => ?_)
        · skip
          try simp only [b2_0, b2_n0] at c32
          refine e_iconst dX9_paste_39 ?_
          refine e_callV (As := [zI _]) (cb := 10) dX9_paste_40 moX9_fails mvX9_fails mlX9_135 (by decide) rfl hM.1.1 rfl (Nat.le_of_ble_eq_true rfl) ⟨by decide, by decide, by decide, by decide⟩ (c_X9_fails hl hM.1 _ (by first | omega | exact b2_in)) (fun E h1 q => by cases q.1) (fun v h1 q => ?_)
          obtain ⟨e1, e2⟩ := q; cases e1; have ht := thr e2; have hM := MM_thr hM e2
          refine e_if_eq (tgt := 48) dX9_paste_43 (by decide) b2_in (fun c43 => ?_) (fun c43 => ?_)
          · skip
            try simp only [b2_0, b2_n0] at c43
            refine e_iconst dX9_paste_48 ?_
            refine e_istore_n dX9_paste_49 rfl (by decide) rfl rfl ?_
            refine e_iconst dX9_paste_50 ?_
            refine e_istore dX9_paste_51 (by decide) rfl rfl ?_
            have lp53 : ∀ (d : Nat) (o v : Int), (4 - o).toNat < d → 0 ≤ o → o ≤ 4 → v = mayN S a b o.toNat → AW l MX9_paste (QM S h (if ¬ (isS S a ∧ isS S b) ∨ a = b then 1 else if S 22 a = 0 then 2 else if mayN S a b 4 = 0 then 3 else 0) (zI 0) (zI (S 23 a)) (pasS S a b)) 0 0 53 [zR (some 99), zI a, zI b, zI v, zI o] [] h1 := by
              intro d
              induction d with
              | zero => intro o v hd o0 o1 hv; exact absurd hd (by omega)
              | succ d ih =>
                have ih53 := ih
                intro o v hd o0 o1 hv
                have v01 := mayN_01 (S := S) (a := a) (b := b) o.toNat
                rw [← hv] at v01
                have es : mayN S a b (o + 1).toNat = b2 (v = 1 ∧ (S 24 (4 * a + o) ≠ 1 ∨ o = b ∨ S 25 ((4 * o + b) * 3 + (S 22 a - 1)) = 1)) := by
                  rw [show (o + 1).toNat = o.toNat + 1 by omega, mayN_s, ← hv, show ((o.toNat : Nat) : Int) = o by omega]
                have q9 := hq a (by omega) (by omega)
                refine e_iload dX9_paste_53 rfl ?_
                refine e_iconst dX9_paste_55 ?_
                refine e_icmp_ge (tgt := 117) dX9_paste_56 (by decide) (by omega) (by omega) (fun c56 => ?_) (fun c56 => ?_)
                · skip
                  refine e_aload_n dX9_paste_117 rfl rfl ?_
                  refine e_iload_n dX9_paste_118 rfl rfl ?_
                  have hm9 : v = mayN S a b 4 := by rw [hv, show o = 4 by omega]; rfl
                  refine e_if_eq (tgt := 126) dX9_paste_119 (by decide) (by omega) (fun c119 => ?_) (fun c119 => ?_)
                  · skip
                    try simp only [b2_0, b2_n0] at c119
                    refine e_iconst dX9_paste_126 ?_
                    refine e_callV (As := [zI _]) (cb := 10) dX9_paste_127 moX9_fails mvX9_fails mlX9_135 (by decide) rfl hM.1.1 rfl (Nat.le_of_ble_eq_true rfl) ⟨by decide, by decide, by decide, by decide⟩ (c_X9_fails hl hM.1 _ (by first | omega | exact b2_in)) (fun E h1 q => by cases q.1) (fun v h1 q => ?_)
                    obtain ⟨e1, e2⟩ := q; cases e1; have ht := thr e2; have hM := MM_thr hM e2
                    refine e_if_eq (tgt := 135) dX9_paste_130 (by decide) b2_in (fun c130 => ?_) (fun c130 => ?_)
                    · skip
                      try simp only [b2_0, b2_n0] at c130
                      exfalso; omega
                    · skip
                      try simp only [b2_0, b2_n0] at c130
                      refine e_iconst dX9_paste_133 ?_
                      refine e_iret dX9_paste_134 rfl trivial (by decide) (by decide) ?_
                      first | (exfalso; omega; done) | exact QM_no (ht.trans (b2_t (by omega))) (by first | (rw [if_pos (by omega)]; done) | (rw [if_neg (by omega), if_pos (by omega)]; done) | (rw [if_neg (by omega), if_neg (by omega), if_pos (by omega)]; done) | (rw [if_neg (by omega), if_neg (by omega), if_neg (by omega), if_pos (by omega)]; done)) (by decide) hM | exact QM_no ht (by first | (rw [if_pos (by omega)]; done) | (rw [if_neg (by omega), if_pos (by omega)]; done) | (rw [if_neg (by omega), if_neg (by omega), if_pos (by omega)]; done) | (rw [if_neg (by omega), if_neg (by omega), if_neg (by omega), if_pos (by omega)]; done)) (by decide) hM | exact QM_ok (ht.trans (b2_f (by omega))) (by first | (rw [if_neg (by omega)]; done) | (rw [if_neg (by omega), if_neg (by omega)]; done) | (rw [if_neg (by omega), if_neg (by omega), if_neg (by omega)]; done) | (rw [if_neg (by omega), if_neg (by omega), if_neg (by omega), if_neg (by omega)]; done)) rfl hM | exact QM_ok ht (by first | (rw [if_neg (by omega)]; done) | (rw [if_neg (by omega), if_neg (by omega)]; done) | (rw [if_neg (by omega), if_neg (by omega), if_neg (by omega)]; done) | (rw [if_neg (by omega), if_neg (by omega), if_neg (by omega), if_neg (by omega)]; done)) rfl hM
                  · skip
                    try simp only [b2_0, b2_n0] at c119
                    refine e_iconst dX9_paste_122 ?_
                    refine e_goto (tgt := 127) dX9_paste_123 (by decide) ?_
                    refine e_callV (As := [zI _]) (cb := 10) dX9_paste_127 moX9_fails mvX9_fails mlX9_135 (by decide) rfl hM.1.1 rfl (Nat.le_of_ble_eq_true rfl) ⟨by decide, by decide, by decide, by decide⟩ (c_X9_fails hl hM.1 _ (by first | omega | exact b2_in)) (fun E h1 q => by cases q.1) (fun v h1 q => ?_)
                    obtain ⟨e1, e2⟩ := q; cases e1; have ht := thr e2; have hM := MM_thr hM e2
                    refine e_if_eq (tgt := 135) dX9_paste_130 (by decide) b2_in (fun c130 => ?_) (fun c130 => ?_)
                    · skip
                      try simp only [b2_0, b2_n0] at c130
                      refine e_aload_n dX9_paste_135 rfl rfl ?_
                      refine m_arr 22 dX9_paste_136 flX9_65 rfl hM (by decide) ?_
                      refine e_iload_n dX9_paste_139 rfl rfl ?_
                      refine e_aload_n dX9_paste_140 rfl rfl ?_
                      refine m_arr 22 dX9_paste_141 flX9_65 rfl hM (by decide) ?_
                      refine e_iload_n dX9_paste_144 rfl rfl ?_
                      refine m_ld dX9_paste_145 hM (by decide) rfl (by omega) (by simp only [mL]; omega) (by (try simp (disch := omega) only [up_f, up_i, up_eq, tkO_16, tkO_f, pasI_f]); rfl) (fun r145 => ?_)
                      refine m_st dX9_paste_146 hM (by decide) rfl (by omega) (by simp only [mL]; omega) (by omega) (fun hM => ?_)
                      refine e_aload_n dX9_paste_147 rfl rfl ?_
                      refine m_arr 23 dX9_paste_148 flX9_68 rfl hM (by decide) ?_
                      refine e_iload_n dX9_paste_151 rfl rfl ?_
                      refine e_aload_n dX9_paste_152 rfl rfl ?_
                      refine m_arr 23 dX9_paste_153 flX9_68 rfl hM (by decide) ?_
                      refine e_iload_n dX9_paste_156 rfl rfl ?_
                      refine m_ld dX9_paste_157 hM (by decide) rfl (by omega) (by simp only [mL]; omega) (by (try simp (disch := omega) only [up_f, up_i, up_eq, tkO_16, tkO_f, pasI_f]); rfl) (fun r157 => ?_)
                      refine m_st dX9_paste_158 hM (by decide) rfl (by omega) (by simp only [mL]; omega) (by omega) (fun hM => ?_)
                      refine e_iconst dX9_paste_159 ?_
                      refine e_istore dX9_paste_160 (by decide) rfl rfl ?_
                      have lp162 : ∀ (d : Nat) (o : Int) (h2 : zH), (4 - o).toNat < d → 0 ≤ o → o ≤ 4 → MM (pasI (up (up S 22 b (S 22 a)) 23 b (S 23 a)) b o (fun o => b2 (o = b ∨ S 24 (4 * a + o) = 1))) h h2 → zf h2 1000 99 = 0 → AW l MX9_paste (QM S h (if ¬ (isS S a ∧ isS S b) ∨ a = b then 1 else if S 22 a = 0 then 2 else if mayN S a b 4 = 0 then 3 else 0) (zI 0) (zI (S 23 a)) (pasS S a b)) 0 0 162 [zR (some 99), zI a, zI b, zI v, zI o] [] h2 := by
                        intro d
                        induction d with
                        | zero => intro o h2 hd o0 o1 hM ht; exact absurd hd (by omega)
                        | succ d ih =>
                          have ih162 := ih
                          intro o h2 hd o0 o1 hM ht
                          have e24 : o < 4 → pasI (up (up S 22 b (S 22 a)) 23 b (S 23 a)) b o (fun o => b2 (o = b ∨ S 24 (4 * a + o) = 1)) 24 (4 * a + o) = S 24 (4 * a + o) := by
                            intro o9
                            unfold pasI
                            rw [if_neg (by omega), up_f (by omega), up_f (by omega)]
                          refine e_iload dX9_paste_162 rfl ?_
                          refine e_iconst dX9_paste_164 ?_
                          refine e_icmp_ge (tgt := 210) dX9_paste_165 (by decide) (by omega) (by omega) (fun c165 => ?_) (fun c165 => ?_)
                          · skip
                            refine e_aload_n dX9_paste_210 rfl rfl ?_
                            refine m_arr 23 dX9_paste_211 flX9_68 rfl hM (by decide) ?_
                            refine e_iload_n dX9_paste_214 rfl rfl ?_
                            refine m_ld dX9_paste_215 hM (by decide) rfl (by omega) (by simp only [mL]; omega) ((pasI_f (by omega)).trans up_eq) (fun r215 => ?_)
                            refine e_iret dX9_paste_216 rfl trivial (by decide) (by decide) ?_
                            exact QM_ok ht (by first | (rw [if_neg (by omega)]; done) | (rw [if_neg (by omega), if_neg (by omega)]; done) | (rw [if_neg (by omega), if_neg (by omega), if_neg (by omega)]; done) | (rw [if_neg (by omega), if_neg (by omega), if_neg (by omega), if_neg (by omega)]; done)) rfl (by rw [show o = 4 by omega] at hM; exact hM)
                          · skip
                            refine e_aload_n dX9_paste_168 rfl rfl ?_
                            refine m_arr 24 dX9_paste_169 flX9_71 rfl hM (by decide) ?_
                            refine e_iconst dX9_paste_172 ?_
                            refine e_iload_n dX9_paste_173 rfl rfl ?_
                            refine e_imul dX9_paste_174 ?_
                            refine e_iload dX9_paste_175 rfl ?_
                            refine e_iadd dX9_paste_177 ?_
                            refine e_iload dX9_paste_178 rfl ?_
                            refine e_iload_n dX9_paste_180 rfl rfl ?_
                            refine e_icmp_eq (tgt := 198) dX9_paste_181 (by decide) (by omega) (by omega) (fun c181 => ?_) (fun c181 => ?_)
                            · skip
                              refine e_iconst dX9_paste_198 ?_
                              refine e_goto (tgt := 203) dX9_paste_199 (by decide) ?_
                              refine m_stz dX9_paste_203 hM (by decide) rfl (by omega) (by simp only [mL]; omega) (by first | exact Or.inl rfl | exact Or.inr rfl | assumption) (fun hM => ?_)
                              refine e_iinc dX9_paste_204 (by decide) rfl rfl rfl rfl ?_
                              refine e_goto (tgt := 162) dX9_paste_207 (by decide) ?_
                              exact ih162 _ _ (by omega) (by omega) (by omega) (MM_eq hM (fun f _ _ j => pasI_s o0 (by first | (rw [b2_t (by omega)]; done) | (rw [b2_f (by omega)]; done)))) ht
                            · skip
                              refine e_aload_n dX9_paste_184 rfl rfl ?_
                              refine m_arr 24 dX9_paste_185 flX9_71 rfl hM (by decide) ?_
                              refine e_iconst dX9_paste_188 ?_
                              refine e_iload_n dX9_paste_189 rfl rfl ?_
                              refine e_imul dX9_paste_190 ?_
                              refine e_iload dX9_paste_191 rfl ?_
                              refine e_iadd dX9_paste_193 ?_
                              refine m_ldz dX9_paste_194 hM (by decide) rfl (by omega) (by simp only [mL]; omega) (e24 (by omega)) (fun r194 => ?_)
                              refine e_if_eq (tgt := 202) dX9_paste_195 (by decide) (by omega) (fun c195 => ?_) (fun c195 => ?_)
                              · skip
                                try simp only [b2_0, b2_n0] at c195
                                refine e_iconst dX9_paste_202 ?_
                                refine m_stz dX9_paste_203 hM (by decide) rfl (by omega) (by simp only [mL]; omega) (by first | exact Or.inl rfl | exact Or.inr rfl | assumption) (fun hM => ?_)
                                refine e_iinc dX9_paste_204 (by decide) rfl rfl rfl rfl ?_
                                refine e_goto (tgt := 162) dX9_paste_207 (by decide) ?_
                                exact ih162 _ _ (by omega) (by omega) (by omega) (MM_eq hM (fun f _ _ j => pasI_s o0 (by first | (rw [b2_t (by omega)]; done) | (rw [b2_f (by omega)]; done)))) ht
                              · skip
                                try simp only [b2_0, b2_n0] at c195
                                refine e_iconst dX9_paste_198 ?_
                                refine e_goto (tgt := 203) dX9_paste_199 (by decide) ?_
                                refine m_stz dX9_paste_203 hM (by decide) rfl (by omega) (by simp only [mL]; omega) (by first | exact Or.inl rfl | exact Or.inr rfl | assumption) (fun hM => ?_)
                                refine e_iinc dX9_paste_204 (by decide) rfl rfl rfl rfl ?_
                                refine e_goto (tgt := 162) dX9_paste_207 (by decide) ?_
                                exact ih162 _ _ (by omega) (by omega) (by omega) (MM_eq hM (fun f _ _ j => pasI_s o0 (by first | (rw [b2_t (by omega)]; done) | (rw [b2_f (by omega)]; done)))) ht
                      exact lp162 5 0 _ (by omega) (by omega) (by omega) (MM_eq hM (fun f _ _ j => if_neg (by omega))) ht
                    · skip
                      try simp only [b2_0, b2_n0] at c130
                      exfalso; omega
                · skip
                  refine e_iload_n dX9_paste_59 rfl rfl ?_
                  refine e_if_eq (tgt := 109) dX9_paste_60 (by decide) (by omega) (fun c60 => ?_) (fun c60 => ?_)
                  · skip
                    try simp only [b2_0, b2_n0] at c60
                    refine e_iconst dX9_paste_109 ?_
                    refine e_istore_n dX9_paste_110 rfl (by decide) rfl rfl ?_
                    refine e_iinc dX9_paste_111 (by decide) rfl rfl rfl rfl ?_
                    refine e_goto (tgt := 53) dX9_paste_114 (by decide) ?_
                    exact ih53 _ _ (by omega) (by omega) (by omega) (by rw [es]; first | (rw [b2_t (by omega)]; done) | (rw [b2_f (by omega)]; done))
                  · skip
                    try simp only [b2_0, b2_n0] at c60
                    refine e_aload_n dX9_paste_63 rfl rfl ?_
                    refine m_arr 24 dX9_paste_64 flX9_71 rfl hM (by decide) ?_
                    refine e_iconst dX9_paste_67 ?_
                    refine e_iload_n dX9_paste_68 rfl rfl ?_
                    refine e_imul dX9_paste_69 ?_
                    refine e_iload dX9_paste_70 rfl ?_
                    refine e_iadd dX9_paste_72 ?_
                    refine m_ldz dX9_paste_73 hM (by decide) rfl (by omega) (by simp only [mL]; omega) (by (try simp (disch := omega) only [up_f, up_i, up_eq, tkO_16, tkO_f, pasI_f]); rfl) (fun r73 => ?_)
                    refine e_if_eq (tgt := 105) dX9_paste_74 (by decide) (by omega) (fun c74 => ?_) (fun c74 => ?_)
                    · skip
                      try simp only [b2_0, b2_n0] at c74
                      refine e_iconst dX9_paste_105 ?_
                      refine e_goto (tgt := 110) dX9_paste_106 (by decide) ?_
                      refine e_istore_n dX9_paste_110 rfl (by decide) rfl rfl ?_
                      refine e_iinc dX9_paste_111 (by decide) rfl rfl rfl rfl ?_
                      refine e_goto (tgt := 53) dX9_paste_114 (by decide) ?_
                      exact ih53 _ _ (by omega) (by omega) (by omega) (by rw [es]; first | (rw [b2_t (by omega)]; done) | (rw [b2_f (by omega)]; done))
                    · skip
                      try simp only [b2_0, b2_n0] at c74
                      refine e_iload dX9_paste_77 rfl ?_
                      refine e_iload_n dX9_paste_79 rfl rfl ?_
                      refine e_icmp_eq (tgt := 105) dX9_paste_80 (by decide) (by omega) (by omega) (fun c80 => ?_) (fun c80 => ?_)
                      · skip
                        refine e_iconst dX9_paste_105 ?_
                        refine e_goto (tgt := 110) dX9_paste_106 (by decide) ?_
                        refine e_istore_n dX9_paste_110 rfl (by decide) rfl rfl ?_
                        refine e_iinc dX9_paste_111 (by decide) rfl rfl rfl rfl ?_
                        refine e_goto (tgt := 53) dX9_paste_114 (by decide) ?_
                        exact ih53 _ _ (by omega) (by omega) (by omega) (by rw [es]; first | (rw [b2_t (by omega)]; done) | (rw [b2_f (by omega)]; done))
                      · skip
                        refine e_aload_n dX9_paste_83 rfl rfl ?_
                        refine m_arr 25 dX9_paste_84 flX9_74 rfl hM (by decide) ?_
                        refine e_iload dX9_paste_87 rfl ?_
                        refine e_iload_n dX9_paste_89 rfl rfl ?_
                        refine e_aload_n dX9_paste_90 rfl rfl ?_
                        refine m_arr 22 dX9_paste_91 flX9_65 rfl hM (by decide) ?_
                        refine e_iload_n dX9_paste_94 rfl rfl ?_
                        refine m_ld dX9_paste_95 hM (by decide) rfl (by omega) (by simp only [mL]; omega) (by (try simp (disch := omega) only [up_f, up_i, up_eq, tkO_16, tkO_f, pasI_f]); rfl) (fun r95 => ?_)
                        refine e_iconst dX9_paste_96 ?_
                        refine e_isub dX9_paste_97 ?_
                        refine e_callS (As := [zI _, zI _, zI _]) dX9_paste_98 moX9_right msX9_right mlX9_259 rfl (Nat.le_of_ble_eq_true rfl) ⟨by decide, by decide, by decide, by decide⟩ (c_X9_right hl _ _ _) (fun E h1 q => by cases q.1) (fun v h9 q => ?_)
                        obtain ⟨e1, e2⟩ := q; cases e1; rw [e2]; clear e2 h9
                        refine m_ldz dX9_paste_101 hM (by decide) rfl (by omega) (by simp only [mL]; omega) (by (try simp (disch := omega) only [up_f, up_i, up_eq, tkO_16, tkO_f, pasI_f]); rfl) (fun r101 => ?_)
                        refine e_if_eq (tgt := 109) dX9_paste_102 (by decide) (by omega) (fun c102 => ?_) (fun c102 => ?_)
                        · skip
                          try simp only [b2_0, b2_n0] at c102
                          refine e_iconst dX9_paste_109 ?_
                          refine e_istore_n dX9_paste_110 rfl (by decide) rfl rfl ?_
                          refine e_iinc dX9_paste_111 (by decide) rfl rfl rfl rfl ?_
                          refine e_goto (tgt := 53) dX9_paste_114 (by decide) ?_
                          exact ih53 _ _ (by omega) (by omega) (by omega) (by rw [es]; first | (rw [b2_t (by omega)]; done) | (rw [b2_f (by omega)]; done))
                        · skip
                          try simp only [b2_0, b2_n0] at c102
                          refine e_iconst dX9_paste_105 ?_
                          refine e_goto (tgt := 110) dX9_paste_106 (by decide) ?_
                          refine e_istore_n dX9_paste_110 rfl (by decide) rfl rfl ?_
                          refine e_iinc dX9_paste_111 (by decide) rfl rfl rfl rfl ?_
                          refine e_goto (tgt := 53) dX9_paste_114 (by decide) ?_
                          exact ih53 _ _ (by omega) (by omega) (by omega) (by rw [es]; first | (rw [b2_t (by omega)]; done) | (rw [b2_f (by omega)]; done))
            exact lp53 5 0 1 (by omega) (by omega) (by omega) rfl
          · skip
            try simp only [b2_0, b2_n0] at c43
            exfalso; omega
        · skip
          try simp only [b2_0, b2_n0] at c32
          refine e_iconst dX9_paste_35 ?_
          refine e_goto (tgt := 40) dX9_paste_36 (by decide) ?_
          refine e_callV (As := [zI _]) (cb := 10) dX9_paste_40 moX9_fails mvX9_fails mlX9_135 (by decide) rfl hM.1.1 rfl (Nat.le_of_ble_eq_true rfl) ⟨by decide, by decide, by decide, by decide⟩ (c_X9_fails hl hM.1 _ (by first | omega | exact b2_in)) (fun E h1 q => by cases q.1) (fun v h1 q => ?_)
          obtain ⟨e1, e2⟩ := q; cases e1; have ht := thr e2; have hM := MM_thr hM e2
          refine e_if_eq (tgt := 48) dX9_paste_43 (by decide) b2_in (fun c43 => ?_) (fun c43 => ?_)
          · skip
            try simp only [b2_0, b2_n0] at c43
            exfalso; omega
          · skip
            try simp only [b2_0, b2_n0] at c43
            refine e_iconst dX9_paste_46 ?_
            refine e_iret dX9_paste_47 rfl trivial (by decide) (by decide) ?_
            first | (exfalso; omega; done) | exact QM_no (ht.trans (b2_t (by omega))) (by first | (rw [if_pos (by omega)]; done) | (rw [if_neg (by omega), if_pos (by omega)]; done) | (rw [if_neg (by omega), if_neg (by omega), if_pos (by omega)]; done) | (rw [if_neg (by omega), if_neg (by omega), if_neg (by omega), if_pos (by omega)]; done)) (by decide) hM | exact QM_no ht (by first | (rw [if_pos (by omega)]; done) | (rw [if_neg (by omega), if_pos (by omega)]; done) | (rw [if_neg (by omega), if_neg (by omega), if_pos (by omega)]; done) | (rw [if_neg (by omega), if_neg (by omega), if_neg (by omega), if_pos (by omega)]; done)) (by decide) hM | exact QM_ok (ht.trans (b2_f (by omega))) (by first | (rw [if_neg (by omega)]; done) | (rw [if_neg (by omega), if_neg (by omega)]; done) | (rw [if_neg (by omega), if_neg (by omega), if_neg (by omega)]; done) | (rw [if_neg (by omega), if_neg (by omega), if_neg (by omega), if_neg (by omega)]; done)) rfl hM | exact QM_ok ht (by first | (rw [if_neg (by omega)]; done) | (rw [if_neg (by omega), if_neg (by omega)]; done) | (rw [if_neg (by omega), if_neg (by omega), if_neg (by omega)]; done) | (rw [if_neg (by omega), if_neg (by omega), if_neg (by omega), if_neg (by omega)]; done)) rfl hM
      · skip
        refine e_iconst dX9_paste_22 ?_
        refine e_goto (tgt := 40) dX9_paste_23 (by decide) ?_
        refine e_callV (As := [zI _]) (cb := 10) dX9_paste_40 moX9_fails mvX9_fails mlX9_135 (by decide) rfl hM.1.1 rfl (Nat.le_of_ble_eq_true rfl) ⟨by decide, by decide, by decide, by decide⟩ (c_X9_fails hl hM.1 _ (by first | omega | exact b2_in)) (fun E h1 q => by cases q.1) (fun v h1 q => ?_)
        obtain ⟨e1, e2⟩ := q; cases e1; have ht := thr e2; have hM := MM_thr hM e2
        refine e_if_eq (tgt := 48) dX9_paste_43 (by decide) b2_in (fun c43 => ?_) (fun c43 => ?_)
        · skip
          try simp only [b2_0, b2_n0] at c43
          exfalso; omega
        · skip
          try simp only [b2_0, b2_n0] at c43
          refine e_iconst dX9_paste_46 ?_
          refine e_iret dX9_paste_47 rfl trivial (by decide) (by decide) ?_
          first | (exfalso; omega; done) | exact QM_no (ht.trans (b2_t (by omega))) (by first | (rw [if_pos (by omega)]; done) | (rw [if_neg (by omega), if_pos (by omega)]; done) | (rw [if_neg (by omega), if_neg (by omega), if_pos (by omega)]; done) | (rw [if_neg (by omega), if_neg (by omega), if_neg (by omega), if_pos (by omega)]; done)) (by decide) hM | exact QM_no ht (by first | (rw [if_pos (by omega)]; done) | (rw [if_neg (by omega), if_pos (by omega)]; done) | (rw [if_neg (by omega), if_neg (by omega), if_pos (by omega)]; done) | (rw [if_neg (by omega), if_neg (by omega), if_neg (by omega), if_pos (by omega)]; done)) (by decide) hM | exact QM_ok (ht.trans (b2_f (by omega))) (by first | (rw [if_neg (by omega)]; done) | (rw [if_neg (by omega), if_neg (by omega)]; done) | (rw [if_neg (by omega), if_neg (by omega), if_neg (by omega)]; done) | (rw [if_neg (by omega), if_neg (by omega), if_neg (by omega), if_neg (by omega)]; done)) rfl hM | exact QM_ok ht (by first | (rw [if_neg (by omega)]; done) | (rw [if_neg (by omega), if_neg (by omega)]; done) | (rw [if_neg (by omega), if_neg (by omega), if_neg (by omega)]; done) | (rw [if_neg (by omega), if_neg (by omega), if_neg (by omega), if_neg (by omega)]; done)) rfl hM
set_option maxHeartbeats 4000000 in
set_option maxRecDepth 100000 in
theorem c_X9_tick {l : Launch} (hl : l.stackTraces = false) {S : S9} {h : zH} (hM : RM S h) (hJ : JJ S) (t B : Int) (htz : zin t) (hB : IB S B) (hB0 : 0 ≤ B ∧ B ≤ 900000000) : zC l MX9_tick [zR (some 99), zI t] h (QM S h (if ¬ (1 ≤ t ∧ t ≤ 20) then 1 else 0) (zI 0) (zI (tikV S t.toNat)) (tikS S t)) := by
  refine zC_of hl rfl rfl (by decide) rfl rfl (Nat.le_of_ble_eq_true rfl) ?_
  have hM : MM S h h := MM_rf hM
  have hN2 := hJ.1
  obtain ⟨n1, n2, n3, n4, n5⟩ := hN2
  refine e_aload_n dX9_tick_0 rfl rfl ?_
  refine e_iload_n dX9_tick_1 rfl rfl ?_
  refine e_iconst dX9_tick_2 ?_
  refine e_bipush dX9_tick_3 (by decide) ?_
  refine e_callS (As := [zI _, zI _, zI _]) dX9_tick_5 moX9_in msX9_in mlX9_139 rfl (Nat.le_of_ble_eq_true rfl) ⟨by decide, by decide, by decide, by decide⟩ (c_X9_in hl _ _ _ (by omega) (by omega) (by omega)) (fun E h1 q => by cases q.1) (fun v h9 q => ?_)
  obtain ⟨e1, e2⟩ := q; cases e1; rw [e2]; clear e2 h9
  refine e_if_eq (tgt := 15) dX9_tick_8 (by decide) b2_in (fun c8 => ?_) (fun c8 => ?_)
  · skip
    try simp only [b2_0, b2_n0] at c8
    refine e_iconst dX9_tick_15 ?_
    refine e_callV (As := [zI _]) (cb := 10) dX9_tick_16 moX9_fails mvX9_fails mlX9_135 (by decide) rfl hM.1.1 rfl (Nat.le_of_ble_eq_true rfl) ⟨by decide, by decide, by decide, by decide⟩ (c_X9_fails hl hM.1 _ (by first | omega | exact b2_in)) (fun E h1 q => by cases q.1) (fun v h1 q => ?_)
    obtain ⟨e1, e2⟩ := q; cases e1; have ht := thr e2; have hM := MM_thr hM e2
    refine e_if_eq (tgt := 24) dX9_tick_19 (by decide) b2_in (fun c19 => ?_) (fun c19 => ?_)
    · skip
      try simp only [b2_0, b2_n0] at c19
      exfalso; omega
    · skip
      try simp only [b2_0, b2_n0] at c19
      refine e_iconst dX9_tick_22 ?_
      refine e_iret dX9_tick_23 rfl trivial (by decide) (by decide) ?_
      exact QM_no ht (by first | (rw [if_pos (by omega)]; done) | (rw [if_neg (by omega), if_pos (by omega)]; done) | (rw [if_neg (by omega), if_neg (by omega), if_pos (by omega)]; done) | (rw [if_neg (by omega), if_neg (by omega), if_neg (by omega), if_pos (by omega)]; done)) (by decide) hM
  · skip
    try simp only [b2_0, b2_n0] at c8
    refine e_iconst dX9_tick_11 ?_
    refine e_goto (tgt := 16) dX9_tick_12 (by decide) ?_
    refine e_callV (As := [zI _]) (cb := 10) dX9_tick_16 moX9_fails mvX9_fails mlX9_135 (by decide) rfl hM.1.1 rfl (Nat.le_of_ble_eq_true rfl) ⟨by decide, by decide, by decide, by decide⟩ (c_X9_fails hl hM.1 _ (by first | omega | exact b2_in)) (fun E h1 q => by cases q.1) (fun v h1 q => ?_)
    obtain ⟨e1, e2⟩ := q; cases e1; have ht := thr e2; have hM := MM_thr hM e2
    refine e_if_eq (tgt := 24) dX9_tick_19 (by decide) b2_in (fun c19 => ?_) (fun c19 => ?_)
    · skip
      try simp only [b2_0, b2_n0] at c19
      refine e_iconst dX9_tick_24 ?_
      refine e_istore_n dX9_tick_25 rfl (by decide) rfl rfl ?_
      refine e_iconst dX9_tick_26 ?_
      refine e_istore_n dX9_tick_27 rfl (by decide) rfl rfl ?_
      have lp28 : ∀ (d : Nat) (k v : Int) (h1 : zH), (t - k).toNat < d → 0 ≤ k → k ≤ t → v = tikV S k.toNat → MM (tikN S k.toNat) h h1 → zf h1 1000 99 = 0 → AW l MX9_tick (QM S h (if ¬ (1 ≤ t ∧ t ≤ 20) then 1 else 0) (zI 0) (zI (tikV S t.toNat)) (tikS S t)) 0 0 28 [zR (some 99), zI t, zI v, zI k, zX] [] h1 := by
        intro d
        induction d with
        | zero => intro k v h1 hd k0 k1 hv hM ht; exact absurd hd (by omega)
        | succ d ih =>
          have ih28 := ih
          intro k v h1 hd k0 k1 hv hM ht
          have hJ1 := tikN_JJ hJ k.toNat
          have hB1 := tikN_IB hJ hB k.toNat
          have e1 : tikN S k.toNat 1 0 = S 1 0 := tikN_f (by omega) _
          have e2 : tikN S k.toNat 2 0 = S 2 0 := tikN_f (by omega) _
          have e3 : tikN S k.toNat 3 0 = S 3 0 := tikN_f (by omega) _
          have es : tikN S (k + 1).toNat = tik1 (tikN S k.toNat) := by rw [show (k + 1).toNat = k.toNat + 1 by omega, tikN_s]
          have ev : tikV S (k + 1).toNat = tikV S k.toNat + tikU (tikN S k.toNat) := by rw [show (k + 1).toNat = k.toNat + 1 by omega, tikV_s]
          have hvi := tikV_in (S := S) k.toNat
          have hJ9 := hJ1.1
          generalize hTT : tikN S k.toNat = TT at hM hJ1 hB1 e1 e2 e3 es ev hJ9
          refine e_iload_n dX9_tick_28 rfl rfl ?_
          refine e_iload_n dX9_tick_29 rfl rfl ?_
          refine e_icmp_ge (tgt := 175) dX9_tick_30 (by decide) (by omega) (by omega) (fun c30 => ?_) (fun c30 => ?_)
          · skip
            refine e_aload_n dX9_tick_175 rfl rfl ?_
            refine e_dup dX9_tick_176 rfl ?_
            refine m_getL dX9_tick_177 flX9_252 hM ?_
            refine e_iload_n dX9_tick_180 rfl rfl ?_
            refine e_i2l dX9_tick_181 (by omega) ?_
            refine e_ladd dX9_tick_182 ?_
            refine m_putL dX9_tick_183 flX9_252 (Or.inl rfl) hM (fun hM => ?_)
            refine e_iload_n dX9_tick_186 rfl rfl ?_
            refine e_iret dX9_tick_187 rfl trivial (by decide) (by decide) ?_
            exact QM_ok ht (by first | (rw [if_neg (by omega)]; done) | (rw [if_neg (by omega), if_neg (by omega)]; done) | (rw [if_neg (by omega), if_neg (by omega), if_neg (by omega)]; done) | (rw [if_neg (by omega), if_neg (by omega), if_neg (by omega), if_neg (by omega)]; done)) (by rw [hv, show k = t by omega]) (MM_eq hM (fun f _ _ j => by unfold tikS; rw [e3, hv, show k = t by omega] ; first | rw [← hTT, show k = t by omega] | skip))
          · skip
            refine e_iconst dX9_tick_33 ?_
            refine e_istore dX9_tick_34 (by decide) rfl rfl ?_
            have lp36 : ∀ (d : Nat) (i : Int) (h2 : zH), (S 1 0 - i).toNat < d → 0 ≤ i → i ≤ S 1 0 → MM (rowsN TT i.toNat) h h2 → zf h2 1000 99 = 0 → AW l MX9_tick (QM S h (if ¬ (1 ≤ t ∧ t ≤ 20) then 1 else 0) (zI 0) (zI (tikV S t.toNat)) (tikS S t)) 0 0 36 [zR (some 99), zI t, zI v, zI k, zI i] [] h2 := by
              intro d
              induction d with
              | zero => intro i h2 hd i0 i1 hM ht; exact absurd hd (by omega)
              | succ d ih =>
                have ih36 := ih
                intro i h2 hd i0 i1 hM ht
                have er1 : rowsN TT i.toNat 1 0 = S 1 0 := (rowsN_f (by omega) _).trans e1
                have er : rowsN TT (i + 1).toNat = rowsS (rowsN TT i.toNat) i := by
                  rw [show (i + 1).toNat = i.toNat + 1 by omega]
                  show rowsS (rowsN TT i.toNat) (i.toNat : Int) = _
                  rw [show ((i.toNat : Nat) : Int) = i by omega]
                have hJr : JJ (rowsN TT i.toNat) := JJ_ag (fun f hf j => rowsN_f (by unfold jF at hf; omega) _) hJ1
                have hBr := rowsN_IB hB1 i.toNat
                refine e_iload dX9_tick_36 rfl ?_
                refine e_aload_n dX9_tick_38 rfl rfl ?_
                refine m_get 1 dX9_tick_39 flX9_132 rfl hM (by unfold mS; omega) rfl (fun r39 => ?_)
                refine e_icmp_ge (tgt := 57) dX9_tick_42 (by decide) (by omega) (by omega) (fun c42 => ?_) (fun c42 => ?_)
                · skip
                  rw [show i = S 1 0 by omega] at hM
                  refine e_iconst dX9_tick_57 ?_
                  refine e_istore dX9_tick_58 (by decide) rfl rfl ?_
                  have lp60 : ∀ (d : Nat) (i : Int) (h2 : zH), (S 2 0 - i).toNat < d → 0 ≤ i → i ≤ S 2 0 → MM (monI (rowsN TT (S 1 0).toNat) i) h h2 → zf h2 1000 99 = 0 → AW l MX9_tick (QM S h (if ¬ (1 ≤ t ∧ t ≤ 20) then 1 else 0) (zI 0) (zI (tikV S t.toNat)) (tikS S t)) 0 0 60 [zR (some 99), zI t, zI v, zI k, zI i] [] h2 := by
                    intro d
                    induction d with
                    | zero => intro i h2 hd i0 i1 hM ht; exact absurd hd (by omega)
                    | succ d ih =>
                      have ih60 := ih
                      intro i h2 hd i0 i1 hM ht
                      have em2 : monI (rowsN TT (S 1 0).toNat) i 2 0 = S 2 0 := (monI_f (by omega)).trans ((rowsN_f (by omega) _).trans e2)
                      have em36 : monI (rowsN TT (S 1 0).toNat) i 36 i = rowsN TT (S 1 0).toNat 36 i := monI_f (by omega)
                      have em37 : monI (rowsN TT (S 1 0).toNat) i 37 i = rowsN TT (S 1 0).toNat 37 i := if_neg (by omega)
                      have eb36 : rowsN TT (S 1 0).toNat 36 i = TT 36 i := rowsN_f (by omega) _
                      have eb37 : rowsN TT (S 1 0).toNat 37 i = TT 37 i := rowsN_f (by omega) _
                      have eb9 : i < S 2 0 → 0 ≤ TT 36 i ∧ TT 36 i ≤ 9 ∧ 0 ≤ TT 37 i ∧ TT 37 i ≤ 60 := fun z => hB1.2.2 i i0 (by omega)
                      refine e_iload dX9_tick_60 rfl ?_
                      refine e_aload_n dX9_tick_62 rfl rfl ?_
                      refine m_get 2 dX9_tick_63 flX9_174 rfl hM (by unfold mS; omega) rfl (fun r63 => ?_)
                      refine e_icmp_ge (tgt := 122) dX9_tick_66 (by decide) (by omega) (by omega) (fun c66 => ?_) (fun c66 => ?_)
                      · skip
                        rw [show i = S 2 0 by omega] at hM
                        have hM := MM_eq (S' := befS TT) hM (fun f _ _ j => by unfold befS; rw [e1, e2])
                        refine e_iload_n dX9_tick_122 rfl rfl ?_
                        refine e_aload_n dX9_tick_123 rfl rfl ?_
                        refine e_callV (As := []) (cb := 10) dX9_tick_124 moX9_line mvX9_line mlX9_242 (by decide) rfl hM.1.1 rfl (Nat.le_of_ble_eq_true rfl) ⟨by decide, by decide, by decide, by decide⟩ (c_X9_line hl hM.1 (befS_JJ hJ1)) (fun E h1 q => by cases q.1) (fun v h1 q => ?_)
                        obtain ⟨e8, hM1, ht1⟩ := q; cases e8; have hM := MM_tr hM hM1; clear hM1; have ht : zf h1 1000 99 = _ := ht1.trans ht
                        refine e_iadd dX9_tick_127 ?_
                        refine e_istore_n dX9_tick_128 rfl (by decide) rfl rfl ?_
                        refine e_iconst dX9_tick_129 ?_
                        refine e_istore dX9_tick_130 (by decide) rfl rfl ?_
                        have lp132 : ∀ (d : Nat) (i : Int) (h2 : zH), (S 1 0 - i).toNat < d → 0 ≤ i → i ≤ S 1 0 → MM (sesN (lineS (befS TT) 24 24).1 i.toNat) h h2 → zf h2 1000 99 = 0 → AW l MX9_tick (QM S h (if ¬ (1 ≤ t ∧ t ≤ 20) then 1 else 0) (zI 0) (zI (tikV S t.toNat)) (tikS S t)) 0 0 132 [zR (some 99), zI t, zI (v + tikU TT), zI k, zI i] [] h2 := by
                          intro d
                          induction d with
                          | zero => intro i h2 hd i0 i1 hM ht; exact absurd hd (by omega)
                          | succ d ih =>
                            have ih132 := ih
                            intro i h2 hd i0 i1 hM ht
                            have hJs := sesN_JJ (lineS_JJ (befS_JJ hJ1) 24 24) i.toNat (by omega)
                            have es1 : sesN (lineS (befS TT) 24 24).1 i.toNat 1 0 = S 1 0 := (sesN_f (by omega) _).trans ((lineS_f (by omega) 24 _ 24).trans ((befS_f (by omega)).trans e1))
                            have er : sesN (lineS (befS TT) 24 24).1 (i + 1).toNat = sesS (sesN (lineS (befS TT) 24 24).1 i.toNat) i := by
                              rw [show (i + 1).toNat = i.toNat + 1 by omega]
                              show sesS (sesN (lineS (befS TT) 24 24).1 i.toNat) (i.toNat : Int) = _
                              rw [show ((i.toNat : Nat) : Int) = i by omega]
                            have hBs := sesN_IB (lineS_JJ (befS_JJ hJ1) 24 24) (lineS_IB (befS_JJ hJ1) (befS_IB hJ1 hB1) 24 24) i.toNat (by omega)
                            generalize hUU : sesN (lineS (befS TT) 24 24).1 i.toNat = UU at hM hJs es1 er hBs
                            refine e_iload dX9_tick_132 rfl ?_
                            refine e_aload_n dX9_tick_134 rfl rfl ?_
                            refine m_get 1 dX9_tick_135 flX9_132 rfl hM (by unfold mS; omega) rfl (fun r135 => ?_)
                            refine e_icmp_ge (tgt := 169) dX9_tick_138 (by decide) (by omega) (by omega) (fun c138 => ?_) (fun c138 => ?_)
                            · skip
                              rw [show i = S 1 0 by omega] at hUU
                              rw [← hUU] at hM
                              have hM := MM_eq (S' := tik1 TT) hM (fun f _ _ j => by unfold tik1; rw [e1])
                              refine e_iinc dX9_tick_169 (by decide) rfl rfl rfl rfl ?_
                              refine e_goto (tgt := 28) dX9_tick_172 (by decide) ?_
                              refine e_mask [true, true, true, true, false] ?_
                              exact ih28 _ _ _ (by omega) (by omega) (by omega) (by rw [ev, ← hv]) (by rw [es]; exact hM) ht
                            · skip
                              refine e_aload_n dX9_tick_141 rfl rfl ?_
                              refine m_arr 27 dX9_tick_142 flX9_80 rfl hM (by decide) ?_
                              refine e_iload dX9_tick_145 rfl ?_
                              refine m_ldz dX9_tick_147 hM (by decide) rfl (by omega) (by simp only [mL]; omega) rfl (fun r147 => ?_)
                              refine e_if_ne (tgt := 157) dX9_tick_148 (by decide) (by omega) (fun c148 => ?_) (fun c148 => ?_)
                              · skip
                                try simp only [b2_0, b2_n0] at c148
                                refine e_aload_n dX9_tick_157 rfl rfl ?_
                                refine e_iload dX9_tick_158 rfl ?_
                                have hM := MM_eq (S' := if UU 27 i = 1 then UU else doK UU i) hM (fun f _ _ j => by first | rw [if_pos (by omega)] | rw [if_neg (by omega)])
                                have hJd : JJ (if UU 27 i = 1 then UU else doK UU i) := by
                                  split
                                  · exact hJs
                                  · exact doK_JJ hJs i0 (by omega)
                                have hR9 := hBs.2.1 i i0 (by omega)
                                have hR8 : (if UU 27 i = 1 then UU else doK UU i) 32 i = UU 32 i ∧ (if UU 27 i = 1 then UU else doK UU i) 33 i = UU 33 i := by
                                  split
                                  · exact ⟨rfl, rfl⟩
                                  · exact ⟨doK_f (by omega), doK_f (by omega)⟩
                                refine e_callV (As := [zI _]) (cb := 10) dX9_tick_160 moX9_recordLook mvX9_recordLook mlX9_249 (by decide) rfl hM.1.1 rfl (Nat.le_of_ble_eq_true rfl) ⟨by decide, by decide, by decide, by decide⟩ (c_X9_recordLook hl hM.1 hJd i i0 (by omega) (by omega)) (fun E h1 q => by cases q.1) (fun v h1 q => ?_)
                                obtain ⟨e8, hM1, ht1⟩ := q; cases e8; have hM := MM_tr hM hM1; clear hM1; have ht : zf h1 1000 99 = _ := ht1.trans ht; have hM : MM (sesS UU i) h h1 := hM
                                refine e_iinc dX9_tick_163 (by decide) rfl rfl rfl rfl ?_
                                refine e_goto (tgt := 132) dX9_tick_166 (by decide) ?_
                                exact ih132 _ _ (by omega) (by omega) (by omega) (by rw [er]; exact hM) ht
                              · skip
                                try simp only [b2_0, b2_n0] at c148
                                refine e_aload_n dX9_tick_151 rfl rfl ?_
                                refine e_iload dX9_tick_152 rfl ?_
                                refine e_callV (As := [zI _]) (cb := 10) dX9_tick_154 moX9_doKeys mvX9_doKeys mlX9_246 (by decide) rfl hM.1.1 rfl (Nat.le_of_ble_eq_true rfl) ⟨by decide, by decide, by decide, by decide⟩ (c_X9_doKeys hl hM.1 hJs _ hBs.1 (by omega) i i0 (by omega)) (fun E h1 q => by cases q.1) (fun v h1 q => ?_)
                                obtain ⟨e8, hM1, ht1⟩ := q; cases e8; have hM := MM_tr hM hM1; clear hM1; have ht : zf h1 1000 99 = _ := ht1.trans ht
                                refine e_aload_n dX9_tick_157 rfl rfl ?_
                                refine e_iload dX9_tick_158 rfl ?_
                                have hM := MM_eq (S' := if UU 27 i = 1 then UU else doK UU i) hM (fun f _ _ j => by first | rw [if_pos (by omega)] | rw [if_neg (by omega)])
                                have hJd : JJ (if UU 27 i = 1 then UU else doK UU i) := by
                                  split
                                  · exact hJs
                                  · exact doK_JJ hJs i0 (by omega)
                                have hR9 := hBs.2.1 i i0 (by omega)
                                have hR8 : (if UU 27 i = 1 then UU else doK UU i) 32 i = UU 32 i ∧ (if UU 27 i = 1 then UU else doK UU i) 33 i = UU 33 i := by
                                  split
                                  · exact ⟨rfl, rfl⟩
                                  · exact ⟨doK_f (by omega), doK_f (by omega)⟩
                                refine e_callV (As := [zI _]) (cb := 10) dX9_tick_160 moX9_recordLook mvX9_recordLook mlX9_249 (by decide) rfl hM.1.1 rfl (Nat.le_of_ble_eq_true rfl) ⟨by decide, by decide, by decide, by decide⟩ (c_X9_recordLook hl hM.1 hJd i i0 (by omega) (by omega)) (fun E h1 q => by cases q.1) (fun v h1 q => ?_)
                                obtain ⟨e8, hM1, ht1⟩ := q; cases e8; have hM := MM_tr hM hM1; clear hM1; have ht : zf h1 1000 99 = _ := ht1.trans ht; have hM : MM (sesS UU i) h h1 := hM
                                refine e_iinc dX9_tick_163 (by decide) rfl rfl rfl rfl ?_
                                refine e_goto (tgt := 132) dX9_tick_166 (by decide) ?_
                                exact ih132 _ _ (by omega) (by omega) (by omega) (by rw [er]; exact hM) ht
                        exact lp132 5 0 _ (by omega) (by omega) (by omega) hM ht
                      · skip
                        refine e_aload_n dX9_tick_69 rfl rfl ?_
                        refine m_arr 37 dX9_tick_70 flX9_110 rfl hM (by decide) ?_
                        refine e_iload dX9_tick_73 rfl ?_
                        refine e_aload_n dX9_tick_75 rfl rfl ?_
                        refine m_arr 37 dX9_tick_76 flX9_110 rfl hM (by decide) ?_
                        refine e_iload dX9_tick_79 rfl ?_
                        refine m_ld dX9_tick_81 hM (by decide) rfl (by omega) (by simp only [mL]; omega) em37 (fun r81 => ?_)
                        refine e_aload_n dX9_tick_82 rfl rfl ?_
                        refine m_arr 36 dX9_tick_83 flX9_107 rfl hM (by decide) ?_
                        refine e_iload dX9_tick_86 rfl ?_
                        refine m_ld dX9_tick_88 hM (by decide) rfl (by omega) (by simp only [mL]; omega) em36 (fun r88 => ?_)
                        refine e_iadd dX9_tick_89 ?_
                        refine e_bipush dX9_tick_90 (by decide) ?_
                        refine e_icmp_le (tgt := 100) dX9_tick_92 (by decide) (by omega) (by omega) (fun c92 => ?_) (fun c92 => ?_)
                        · skip
                          refine e_aload_n dX9_tick_100 rfl rfl ?_
                          refine m_arr 37 dX9_tick_101 flX9_110 rfl hM (by decide) ?_
                          refine e_iload dX9_tick_104 rfl ?_
                          refine m_ld dX9_tick_106 hM (by decide) rfl (by omega) (by simp only [mL]; omega) em37 (fun r106 => ?_)
                          refine e_aload_n dX9_tick_107 rfl rfl ?_
                          refine m_arr 36 dX9_tick_108 flX9_107 rfl hM (by decide) ?_
                          refine e_iload dX9_tick_111 rfl ?_
                          refine m_ld dX9_tick_113 hM (by decide) rfl (by omega) (by simp only [mL]; omega) em36 (fun r113 => ?_)
                          refine e_iadd dX9_tick_114 ?_
                          refine m_st dX9_tick_115 hM (by decide) rfl (by omega) (by simp only [mL]; omega) (by omega) (fun hM => ?_)
                          refine e_iinc dX9_tick_116 (by decide) rfl rfl rfl rfl ?_
                          refine e_goto (tgt := 60) dX9_tick_119 (by decide) ?_
                          refine ih60 _ _ (by omega) (by omega) (by omega) (MM_eq hM (fun f _ _ j => monI_s i0 ?_)) ht
                          first
                            | (rw [if_pos (by omega)]; done)
                            | (rw [if_neg (by omega)]; done)
                        · skip
                          refine e_bipush dX9_tick_95 (by decide) ?_
                          refine e_goto (tgt := 115) dX9_tick_97 (by decide) ?_
                          refine m_st dX9_tick_115 hM (by decide) rfl (by omega) (by simp only [mL]; omega) (by omega) (fun hM => ?_)
                          refine e_iinc dX9_tick_116 (by decide) rfl rfl rfl rfl ?_
                          refine e_goto (tgt := 60) dX9_tick_119 (by decide) ?_
                          refine ih60 _ _ (by omega) (by omega) (by omega) (MM_eq hM (fun f _ _ j => monI_s i0 ?_)) ht
                          first
                            | (rw [if_pos (by omega)]; done)
                            | (rw [if_neg (by omega)]; done)
                  exact lp60 7 0 _ (by omega) (by omega) (by omega) (MM_eq hM (fun f _ _ j => if_neg (by omega))) ht
                · skip
                  refine e_aload_n dX9_tick_45 rfl rfl ?_
                  refine e_iload dX9_tick_46 rfl ?_
                  refine e_callV (As := [zI _]) (cb := 10) dX9_tick_48 moX9_copyRows mvX9_copyRows mlX9_239 (by decide) rfl hM.1.1 rfl (Nat.le_of_ble_eq_true rfl) ⟨by decide, by decide, by decide, by decide⟩ (c_X9_copyRows hl hM.1 hJr i i0 (by omega) (by have := hBr.2.1 i i0 (by omega); omega)) (fun E h1 q => by cases q.1) (fun v h1 q => ?_)
                  obtain ⟨e8, hM1, ht1⟩ := q; cases e8; have hM := MM_tr hM hM1; clear hM1; have ht : zf h1 1000 99 = _ := ht1.trans ht
                  refine e_iinc dX9_tick_51 (by decide) rfl rfl rfl rfl ?_
                  refine e_goto (tgt := 36) dX9_tick_54 (by decide) ?_
                  exact ih36 _ _ (by omega) (by omega) (by omega) (by rw [er]; exact hM) ht
            exact lp36 5 0 _ (by omega) (by omega) (by omega) hM ht
      exact lp28 21 0 0 _ (by omega) (by omega) (by omega) rfl hM ht
    · skip
      try simp only [b2_0, b2_n0] at c19
      exfalso; omega
