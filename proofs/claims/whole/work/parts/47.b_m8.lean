set_option maxHeartbeats 4000000 in
set_option maxRecDepth 100000 in
theorem c_X9_doKeys {l : Launch} (hl : l.stackTraces = false) {S : S9} {h : zH} (hM : RM S h) (hJ : JJ S) (B : Int) (hG : IG S B) (hB : B ≤ 1000000000) (s : Int) (hs0 : 0 ≤ s) (hs1 : s < 4) : zC l MX9_doKeys [zR (some 99), zI s] h (fun o h' => o = .inl none ∧ MM (doK S s) h h' ∧ zf h' 1000 99 = zf h 1000 99) := by
  refine zC_of hl rfl rfl (by decide) rfl rfl (Nat.le_of_ble_eq_true rfl) ?_
  have hM : MM S h h := MM_rf hM
  have hN := hJ.1
  have hI := hJ.2.1
  have hO := hJ.2.2.1
  have hC := hJ.2.2.2.1
  have hK := hJ.2.2.2.2
  have hN2 := hN.2.2.2.2 s hs0 hs1
  have hN3 := hN
  refine e_bipush dX9_doKeys_0 (by decide) ?_
  refine e_iload_n dX9_doKeys_2 rfl rfl ?_
  refine e_imul dX9_doKeys_3 ?_
  refine e_istore_n dX9_doKeys_4 rfl (by decide) rfl rfl ?_
  have lp5 : ∀ (d : Nat) (i : Int) (h1 : zH), (S 17 s - i).toNat < d → 0 ≤ i → i ≤ S 17 s → MM (keyN S s i.toNat) h h1 → zf h1 1000 99 = zf h 1000 99 → AW l MX9_doKeys (fun o h' => o = .inl none ∧ MM (doK S s) h h' ∧ zf h' 1000 99 = zf h 1000 99) 0 0 5 [zR (some 99), zI s, zI (20 * s + i), zX, zX] [] h1 := by
    intro d
    induction d with
    | zero => intro i h1 hd i0 i1 hM ht; exact absurd hd (by omega)
    | succ d ih =>
      have ih5 := ih
      intro i h1 hd i0 i1 hM ht
      have hJ1 := keyN_JJ hJ hs0 hs1 i.toNat (by omega)
      have hG1 := keyN_IG (s := s) hG i.toNat
      have e17 : keyN S s i.toNat 17 s = S 17 s := keyN_f (by omega) _
      have es : keyN S s (i + 1).toNat = key1 (keyN S s i.toNat) s i := by
        rw [show (i + 1).toNat = i.toNat + 1 by omega, keyN_s, show ((i.toNat : Nat) : Int) = i by omega]
      have e2 : keyN S s i.toNat 2 0 = S 2 0 := keyN_f (by omega) _
      generalize hS1 : keyN S s i.toNat = S1 at hM hJ1 hG1 e17 es e2
      refine e_iload_n dX9_doKeys_5 rfl rfl ?_
      refine e_bipush dX9_doKeys_6 (by decide) ?_
      refine e_iload_n dX9_doKeys_8 rfl rfl ?_
      refine e_imul dX9_doKeys_9 ?_
      refine e_aload_n dX9_doKeys_10 rfl rfl ?_
      refine m_arr 17 dX9_doKeys_11 flX9_50 rfl hM (by decide) ?_
      refine e_iload_n dX9_doKeys_14 rfl rfl ?_
      refine m_ld dX9_doKeys_15 hM (by decide) rfl (by omega) (by simp only [mL]; omega) (by (try simp (disch := omega) only [up_f, up_i, up_eq, tkO_16, tkO_f, keyW_f]); rfl) (fun r15 => ?_)
      refine e_iadd dX9_doKeys_16 ?_
      refine e_icmp_ge (tgt := 183) dX9_doKeys_17 (by decide) (by omega) (by omega) (fun c17 => ?_) (fun c17 => ?_)
      · skip
        refine e_aload_n dX9_doKeys_183 rfl rfl ?_
        refine m_arr 17 dX9_doKeys_184 flX9_50 rfl hM (by decide) ?_
        refine e_iload_n dX9_doKeys_187 rfl rfl ?_
        refine e_iconst dX9_doKeys_188 ?_
        refine m_st dX9_doKeys_189 hM (by decide) rfl (by omega) (by simp only [mL]; omega) (by omega) (fun hM => ?_)
        refine e_vret dX9_doKeys_190 rfl (by decide) (by decide) ?_
        exact ⟨rfl, by rw [show i = S 17 s by omega] at hS1; rw [← hS1] at hM; exact hM, ht⟩
      · skip
        have q3 := hJ1.2.2.2.2 s i hs0 hs1 i0 (by omega)
        have q4 := q3
        obtain ⟨⟨q41, q42, q43, q44⟩, q45, q46, q47, q48⟩ := q4
        have q5 := hJ1.2.1 _ _ q3.1
        obtain ⟨w1, w2, w3, w4, w5, w6, w7, w8, w9, w10⟩ := id q5
        have wa := area_le w5 w6 w7 w8
        have q6 := hJ1.1.2.2.2.2 s hs0 hs1
        have q7 := hG1 _ q47 q48
        have hJ2 := keyW_JJ hJ1 q3
        have hn9 := hJ1.1.2.2.2.1
        refine e_aload_n dX9_doKeys_20 rfl rfl ?_
        refine m_arr 18 dX9_doKeys_21 flX9_53 rfl hM (by decide) ?_
        refine e_iload_n dX9_doKeys_24 rfl rfl ?_
        refine m_ld dX9_doKeys_25 hM (by decide) rfl (by omega) (by simp only [mL]; omega) (by (try simp (disch := omega) only [up_f, up_i, up_eq, tkO_16, tkO_f, keyW_f]); rfl) (fun r25 => ?_)
        refine e_istore_n dX9_doKeys_26 rfl (by decide) rfl rfl ?_
        refine e_aload_n dX9_doKeys_27 rfl rfl ?_
        refine m_arr 10 dX9_doKeys_28 flX9_28 rfl hM (by decide) ?_
        refine e_iload_n dX9_doKeys_31 rfl rfl ?_
        refine m_ldz dX9_doKeys_32 hM (by decide) rfl (by omega) (by simp only [mL]; omega) (by (try simp (disch := omega) only [up_f, up_i, up_eq, tkO_16, tkO_f, keyW_f]); rfl) (fun r32 => ?_)
        refine e_if_eq (tgt := 100) dX9_doKeys_33 (by decide) (by omega) (fun c33 => ?_) (fun c33 => ?_)
        · skip
          try simp only [b2_0, b2_n0] at c33
          have ew : keyW S1 s i = S1 := if_neg (by omega)
          have hM := MM_eq (S' := keyW S1 s i) hM (fun f _ _ j => by rw [ew])
          refine e_aload_n dX9_doKeys_100 rfl rfl ?_
          refine e_iload_n dX9_doKeys_101 rfl rfl ?_
          refine e_aload_n dX9_doKeys_102 rfl rfl ?_
          refine m_arr 20 dX9_doKeys_103 flX9_59 rfl hM (by decide) ?_
          refine e_iload_n dX9_doKeys_106 rfl rfl ?_
          refine m_ld dX9_doKeys_107 hM (by decide) rfl (by omega) (by simp only [mL]; omega) (by (try simp (disch := omega) only [up_f, up_i, up_eq, tkO_16, tkO_f, keyW_f]); rfl) (fun r107 => ?_)
          refine e_callV (As := [zI _, zI _]) (cb := 10) dX9_doKeys_108 moX9_placeOf mvX9_placeOf mlX9_183 (by decide) rfl hM.1.1 rfl (Nat.le_of_ble_eq_true rfl) ⟨by decide, by decide, by decide, by decide⟩ (c_X9_placeOf hl hM.1 _ _ (by omega) (by omega) (hJ2.2.1 s _ (by simp only [hasW, keyW_f (f := 4) (by omega)]; exact q3.1)) q45 (by omega)) (fun E h1 q => by cases q.1) (fun v h9 q => ?_)
          obtain ⟨e1, e2⟩ := q; cases e1; rw [e2]; clear e2 h9
          rw [placeOf_ag2 (S := S1) (fun f _ _ j => keyW_f (by omega)) _ _]
          have pl := placeOf_in (S := S1) (w := S1 18 (20 * s + i)) (c := S1 20 (20 * s + i))
          refine e_istore dX9_doKeys_111 (by decide) rfl rfl ?_
          refine e_aload_n dX9_doKeys_113 rfl rfl ?_
          refine m_arr 38 dX9_doKeys_114 flX9_113 rfl hM (by decide) ?_
          refine e_aload_n dX9_doKeys_117 rfl rfl ?_
          refine m_arr 21 dX9_doKeys_118 flX9_62 rfl hM (by decide) ?_
          refine e_iload_n dX9_doKeys_121 rfl rfl ?_
          refine m_ld dX9_doKeys_122 hM (by decide) rfl (by omega) (by simp only [mL]; omega) (by (try simp (disch := omega) only [up_f, up_i, up_eq, tkO_16, tkO_f, keyW_f]); rfl) (fun r122 => ?_)
          refine e_dup2 dX9_doKeys_123 rfl rfl ?_
          refine m_ld dX9_doKeys_124 hM (by decide) rfl (by omega) (by simp only [mL]; omega) (by (try simp (disch := omega) only [up_f, up_i, up_eq, tkO_16, tkO_f, keyW_f]); rfl) (fun r124 => ?_)
          refine e_iconst dX9_doKeys_125 ?_
          refine e_iadd dX9_doKeys_126 ?_
          refine m_st dX9_doKeys_127 hM (by decide) rfl (by omega) (by simp only [mL]; omega) (by omega) (fun hM => ?_)
          refine e_aload_n dX9_doKeys_128 rfl rfl ?_
          refine m_arr 39 dX9_doKeys_129 flX9_116 rfl hM (by decide) ?_
          refine e_aload_n dX9_doKeys_132 rfl rfl ?_
          refine m_arr 21 dX9_doKeys_133 flX9_62 rfl hM (by decide) ?_
          refine e_iload_n dX9_doKeys_136 rfl rfl ?_
          refine m_ld dX9_doKeys_137 hM (by decide) rfl (by omega) (by simp only [mL]; omega) (by (try simp (disch := omega) only [up_f, up_i, up_eq, tkO_16, tkO_f, keyW_f]); rfl) (fun r137 => ?_)
          refine e_dup2 dX9_doKeys_138 rfl rfl ?_
          refine m_ld dX9_doKeys_139 hM (by decide) rfl (by omega) (by simp only [mL]; omega) (by (try simp (disch := omega) only [up_f, up_i, up_eq, tkO_16, tkO_f, keyW_f]); rfl) (fun r139 => ?_)
          refine e_iload dX9_doKeys_140 rfl ?_
          refine e_if_lt (tgt := 174) dX9_doKeys_142 (by decide) (by omega) (fun c142 => ?_) (fun c142 => ?_)
          · skip
            refine e_iconst dX9_doKeys_174 ?_
            refine e_iadd dX9_doKeys_175 ?_
            refine m_st dX9_doKeys_176 hM (by decide) rfl (by omega) (by simp only [mL]; omega) (by omega) (fun hM => ?_)
            refine e_iinc dX9_doKeys_177 (by decide) rfl rfl rfl rfl ?_
            refine e_goto (tgt := 5) dX9_doKeys_180 (by decide) ?_
            rw [show (20 * s + i + 1 : Int) = 20 * s + (i + 1) by omega]
            refine e_mask [true, true, true, false, false] ?_
            refine ih5 _ _ (by omega) (by omega) (by omega) ?_ ht
            rw [es]
            first
              | (refine MM_eq hM (fun f _ _ j => ?_); unfold key1; rw [show keyR S1 s i = 1 from b2_t (by omega)]; done)
              | (refine MM_eq hM (fun f _ _ j => ?_); unfold key1; rw [show keyR S1 s i = 0 from b2_f (by omega)]; done)
          · skip
            refine e_aload_n dX9_doKeys_145 rfl rfl ?_
            refine m_arr 10 dX9_doKeys_146 flX9_28 rfl hM (by decide) ?_
            refine e_iload_n dX9_doKeys_149 rfl rfl ?_
            refine m_ldz dX9_doKeys_150 hM (by decide) rfl (by omega) (by simp only [mL]; omega) (by (try simp (disch := omega) only [up_f, up_i, up_eq, tkO_16, tkO_f, keyW_f]); rfl) (fun r150 => ?_)
            refine e_if_eq (tgt := 174) dX9_doKeys_151 (by decide) (by omega) (fun c151 => ?_) (fun c151 => ?_)
            · skip
              try simp only [b2_0, b2_n0] at c151
              refine e_iconst dX9_doKeys_174 ?_
              refine e_iadd dX9_doKeys_175 ?_
              refine m_st dX9_doKeys_176 hM (by decide) rfl (by omega) (by simp only [mL]; omega) (by omega) (fun hM => ?_)
              refine e_iinc dX9_doKeys_177 (by decide) rfl rfl rfl rfl ?_
              refine e_goto (tgt := 5) dX9_doKeys_180 (by decide) ?_
              rw [show (20 * s + i + 1 : Int) = 20 * s + (i + 1) by omega]
              refine e_mask [true, true, true, false, false] ?_
              refine ih5 _ _ (by omega) (by omega) (by omega) ?_ ht
              rw [es]
              first
                | (refine MM_eq hM (fun f _ _ j => ?_); unfold key1; rw [show keyR S1 s i = 1 from b2_t (by omega)]; done)
                | (refine MM_eq hM (fun f _ _ j => ?_); unfold key1; rw [show keyR S1 s i = 0 from b2_f (by omega)]; done)
            · skip
              try simp only [b2_0, b2_n0] at c151
              refine e_aload_n dX9_doKeys_154 rfl rfl ?_
              refine e_iload_n dX9_doKeys_155 rfl rfl ?_
              refine e_iload dX9_doKeys_156 rfl ?_
              refine e_callV (As := [zI _, zI _]) (cb := 10) dX9_doKeys_158 moX9_screenAt mvX9_screenAt mlX9_164 (by decide) rfl hM.1.1 rfl (Nat.le_of_ble_eq_true rfl) ⟨by decide, by decide, by decide, by decide⟩ (c_X9_screenAt hl hM.1 (IN_up hJ2.1 (by omega)) (IW_ag (fun f _ _ j => up_f (by omega)) hJ2.2.1) (IO_ag (fun f hf j => up_f (by omega)) hJ2.2.2.1) _ _ hs0 hs1 (by omega) (by omega)) (fun E h1 q => by cases q.1) (fun v h9 q => ?_)
              obtain ⟨e1, e2⟩ := q; cases e1; rw [e2]; clear e2 h9
              rw [screenAt_ag (S := keyW S1 s i) (fun f _ _ j => up_f (by omega)) _ _]
              refine e_G (fun G => ?_)
              have rs : zin (screenAt (keyW S1 s i) s (placeOf S1 (S1 18 (20 * s + i)) (S1 20 (20 * s + i)))) := by
                rw [← screenAt_ag (S := keyW S1 s i) (S' := up (keyW S1 s i) 38 (S1 21 (20 * s + i)) (S1 38 (S1 21 (20 * s + i)) + 1)) (fun f _ _ j => up_f (by omega)) _ _]
                exact screen_in hM.1 G
              refine e_aload_n dX9_doKeys_161 rfl rfl ?_
              refine m_arr 19 dX9_doKeys_162 flX9_56 rfl hM (by decide) ?_
              refine e_iload_n dX9_doKeys_165 rfl rfl ?_
              refine m_ld dX9_doKeys_166 hM (by decide) rfl (by omega) (by simp only [mL]; omega) (by (try simp (disch := omega) only [up_f, up_i, up_eq, tkO_16, tkO_f, keyW_f]); rfl) (fun r166 => ?_)
              refine e_icmp_ne (tgt := 174) dX9_doKeys_167 (by decide) (by omega) (by omega) (fun c167 => ?_) (fun c167 => ?_)
              · skip
                refine e_iconst dX9_doKeys_174 ?_
                refine e_iadd dX9_doKeys_175 ?_
                refine m_st dX9_doKeys_176 hM (by decide) rfl (by omega) (by simp only [mL]; omega) (by omega) (fun hM => ?_)
                refine e_iinc dX9_doKeys_177 (by decide) rfl rfl rfl rfl ?_
                refine e_goto (tgt := 5) dX9_doKeys_180 (by decide) ?_
                rw [show (20 * s + i + 1 : Int) = 20 * s + (i + 1) by omega]
                refine e_mask [true, true, true, false, false] ?_
                refine ih5 _ _ (by omega) (by omega) (by omega) ?_ ht
                rw [es]
                first
                  | (refine MM_eq hM (fun f _ _ j => ?_); unfold key1; rw [show keyR S1 s i = 1 from b2_t (by omega)]; done)
                  | (refine MM_eq hM (fun f _ _ j => ?_); unfold key1; rw [show keyR S1 s i = 0 from b2_f (by omega)]; done)
              · skip
                refine e_iconst dX9_doKeys_170 ?_
                refine e_goto (tgt := 175) dX9_doKeys_171 (by decide) ?_
                refine e_iadd dX9_doKeys_175 ?_
                refine m_st dX9_doKeys_176 hM (by decide) rfl (by omega) (by simp only [mL]; omega) (by omega) (fun hM => ?_)
                refine e_iinc dX9_doKeys_177 (by decide) rfl rfl rfl rfl ?_
                refine e_goto (tgt := 5) dX9_doKeys_180 (by decide) ?_
                rw [show (20 * s + i + 1 : Int) = 20 * s + (i + 1) by omega]
                refine e_mask [true, true, true, false, false] ?_
                refine ih5 _ _ (by omega) (by omega) (by omega) ?_ ht
                rw [es]
                first
                  | (refine MM_eq hM (fun f _ _ j => ?_); unfold key1; rw [show keyR S1 s i = 1 from b2_t (by omega)]; done)
                  | (refine MM_eq hM (fun f _ _ j => ?_); unfold key1; rw [show keyR S1 s i = 0 from b2_f (by omega)]; done)
        · skip
          try simp only [b2_0, b2_n0] at c33
          refine e_aload_n dX9_doKeys_36 rfl rfl ?_
          refine m_arr 14 dX9_doKeys_37 flX9_41 rfl hM (by decide) ?_
          refine e_bipush dX9_doKeys_40 (by decide) ?_
          refine e_iload_n dX9_doKeys_42 rfl rfl ?_
          refine e_imul dX9_doKeys_43 ?_
          refine e_aload_n dX9_doKeys_44 rfl rfl ?_
          refine m_arr 9 dX9_doKeys_45 flX9_25 rfl hM (by decide) ?_
          refine e_iload_n dX9_doKeys_48 rfl rfl ?_
          refine m_ld dX9_doKeys_49 hM (by decide) rfl (by omega) (by simp only [mL]; omega) (by (try simp (disch := omega) only [up_f, up_i, up_eq, tkO_16, tkO_f, keyW_f]); rfl) (fun r49 => ?_)
          refine e_iadd dX9_doKeys_50 ?_
          refine e_aload_n dX9_doKeys_51 rfl rfl ?_
          refine m_arr 13 dX9_doKeys_52 flX9_38 rfl hM (by decide) ?_
          refine e_iload_n dX9_doKeys_55 rfl rfl ?_
          refine m_ldz dX9_doKeys_56 hM (by decide) rfl (by omega) (by simp only [mL]; omega) (by (try simp (disch := omega) only [up_f, up_i, up_eq, tkO_16, tkO_f, keyW_f]); rfl) (fun r56 => ?_)
          refine e_if_eq (tgt := 65) dX9_doKeys_57 (by decide) (by omega) (fun c57 => ?_) (fun c57 => ?_)
          · skip
            try simp only [b2_0, b2_n0] at c57
            refine e_aload_n dX9_doKeys_65 rfl rfl ?_
            refine m_arr 19 dX9_doKeys_66 flX9_56 rfl hM (by decide) ?_
            refine e_iload_n dX9_doKeys_69 rfl rfl ?_
            refine m_ld dX9_doKeys_70 hM (by decide) rfl (by omega) (by simp only [mL]; omega) (by (try simp (disch := omega) only [up_f, up_i, up_eq, tkO_16, tkO_f, keyW_f]); rfl) (fun r70 => ?_)
            refine m_st dX9_doKeys_71 hM (by decide) rfl (by omega) (by simp only [mL]; omega) (by omega) (fun hM => ?_)
            refine e_aload_n dX9_doKeys_72 rfl rfl ?_
            refine m_arr 9 dX9_doKeys_73 flX9_25 rfl hM (by decide) ?_
            refine e_iload_n dX9_doKeys_76 rfl rfl ?_
            refine e_aload_n dX9_doKeys_77 rfl rfl ?_
            refine m_arr 9 dX9_doKeys_78 flX9_25 rfl hM (by decide) ?_
            refine e_iload_n dX9_doKeys_81 rfl rfl ?_
            refine m_ld dX9_doKeys_82 hM (by decide) rfl (by omega) (by simp only [mL]; omega) (by (try simp (disch := omega) only [up_f, up_i, up_eq, tkO_16, tkO_f, keyW_f]); rfl) (fun r82 => ?_)
            refine e_iconst dX9_doKeys_83 ?_
            refine e_iadd dX9_doKeys_84 ?_
            refine e_aload_n dX9_doKeys_85 rfl rfl ?_
            refine m_arr 7 dX9_doKeys_86 flX9_19 rfl hM (by decide) ?_
            refine e_iload_n dX9_doKeys_89 rfl rfl ?_
            refine m_ld dX9_doKeys_90 hM (by decide) rfl (by omega) (by simp only [mL]; omega) (by (try simp (disch := omega) only [up_f, up_i, up_eq, tkO_16, tkO_f, keyW_f]); rfl) (fun r90 => ?_)
            refine e_aload_n dX9_doKeys_91 rfl rfl ?_
            refine m_arr 8 dX9_doKeys_92 flX9_22 rfl hM (by decide) ?_
            refine e_iload_n dX9_doKeys_95 rfl rfl ?_
            refine m_ld dX9_doKeys_96 hM (by decide) rfl (by omega) (by simp only [mL]; omega) (by (try simp (disch := omega) only [up_f, up_i, up_eq, tkO_16, tkO_f, keyW_f]); rfl) (fun r96 => ?_)
            refine e_imul dX9_doKeys_97 ?_
            refine e_irem dX9_doKeys_98 (by omega) (by omega) (by omega) (by omega) ?_
            have gm := Int.emod_nonneg (S1 9 (S1 18 (20 * s + i)) + 1) (b := S1 7 (S1 18 (20 * s + i)) * S1 8 (S1 18 (20 * s + i))) (by omega)
            have gl := Int.emod_lt_of_pos (S1 9 (S1 18 (20 * s + i)) + 1) (b := S1 7 (S1 18 (20 * s + i)) * S1 8 (S1 18 (20 * s + i))) (by omega)
            refine m_st dX9_doKeys_99 hM (by decide) rfl (by omega) (by simp only [mL]; omega) (by omega) (fun hM => ?_)
            first
              | (have ew : keyW S1 s i = up (up S1 14 (96 * S1 18 (20 * s + i) + S1 9 (S1 18 (20 * s + i))) 7) 9 (S1 18 (20 * s + i)) ((S1 9 (S1 18 (20 * s + i)) + 1) % (S1 7 (S1 18 (20 * s + i)) * S1 8 (S1 18 (20 * s + i)))) := (by
                  unfold keyW
                  rw [if_pos (by omega), if_pos (by omega)])
                 rw [← ew] at hM)
              | (have ew : keyW S1 s i = up (up S1 14 (96 * S1 18 (20 * s + i) + S1 9 (S1 18 (20 * s + i))) (S1 19 (20 * s + i))) 9 (S1 18 (20 * s + i)) ((S1 9 (S1 18 (20 * s + i)) + 1) % (S1 7 (S1 18 (20 * s + i)) * S1 8 (S1 18 (20 * s + i)))) := (by
                  unfold keyW
                  rw [if_pos (by omega), if_neg (by omega)])
                 rw [← ew] at hM)
            refine e_aload_n dX9_doKeys_100 rfl rfl ?_
            refine e_iload_n dX9_doKeys_101 rfl rfl ?_
            refine e_aload_n dX9_doKeys_102 rfl rfl ?_
            refine m_arr 20 dX9_doKeys_103 flX9_59 rfl hM (by decide) ?_
            refine e_iload_n dX9_doKeys_106 rfl rfl ?_
            refine m_ld dX9_doKeys_107 hM (by decide) rfl (by omega) (by simp only [mL]; omega) (by (try simp (disch := omega) only [up_f, up_i, up_eq, tkO_16, tkO_f, keyW_f]); rfl) (fun r107 => ?_)
            refine e_callV (As := [zI _, zI _]) (cb := 10) dX9_doKeys_108 moX9_placeOf mvX9_placeOf mlX9_183 (by decide) rfl hM.1.1 rfl (Nat.le_of_ble_eq_true rfl) ⟨by decide, by decide, by decide, by decide⟩ (c_X9_placeOf hl hM.1 _ _ (by omega) (by omega) (hJ2.2.1 s _ (by simp only [hasW, keyW_f (f := 4) (by omega)]; exact q3.1)) q45 (by omega)) (fun E h1 q => by cases q.1) (fun v h9 q => ?_)
            obtain ⟨e1, e2⟩ := q; cases e1; rw [e2]; clear e2 h9
            rw [placeOf_ag2 (S := S1) (fun f _ _ j => keyW_f (by omega)) _ _]
            have pl := placeOf_in (S := S1) (w := S1 18 (20 * s + i)) (c := S1 20 (20 * s + i))
            refine e_istore dX9_doKeys_111 (by decide) rfl rfl ?_
            refine e_aload_n dX9_doKeys_113 rfl rfl ?_
            refine m_arr 38 dX9_doKeys_114 flX9_113 rfl hM (by decide) ?_
            refine e_aload_n dX9_doKeys_117 rfl rfl ?_
            refine m_arr 21 dX9_doKeys_118 flX9_62 rfl hM (by decide) ?_
            refine e_iload_n dX9_doKeys_121 rfl rfl ?_
            refine m_ld dX9_doKeys_122 hM (by decide) rfl (by omega) (by simp only [mL]; omega) (by (try simp (disch := omega) only [up_f, up_i, up_eq, tkO_16, tkO_f, keyW_f]); rfl) (fun r122 => ?_)
            refine e_dup2 dX9_doKeys_123 rfl rfl ?_
            refine m_ld dX9_doKeys_124 hM (by decide) rfl (by omega) (by simp only [mL]; omega) (by (try simp (disch := omega) only [up_f, up_i, up_eq, tkO_16, tkO_f, keyW_f]); rfl) (fun r124 => ?_)
            refine e_iconst dX9_doKeys_125 ?_
            refine e_iadd dX9_doKeys_126 ?_
            refine m_st dX9_doKeys_127 hM (by decide) rfl (by omega) (by simp only [mL]; omega) (by omega) (fun hM => ?_)
            refine e_aload_n dX9_doKeys_128 rfl rfl ?_
            refine m_arr 39 dX9_doKeys_129 flX9_116 rfl hM (by decide) ?_
            refine e_aload_n dX9_doKeys_132 rfl rfl ?_
            refine m_arr 21 dX9_doKeys_133 flX9_62 rfl hM (by decide) ?_
            refine e_iload_n dX9_doKeys_136 rfl rfl ?_
            refine m_ld dX9_doKeys_137 hM (by decide) rfl (by omega) (by simp only [mL]; omega) (by (try simp (disch := omega) only [up_f, up_i, up_eq, tkO_16, tkO_f, keyW_f]); rfl) (fun r137 => ?_)
            refine e_dup2 dX9_doKeys_138 rfl rfl ?_
            refine m_ld dX9_doKeys_139 hM (by decide) rfl (by omega) (by simp only [mL]; omega) (by (try simp (disch := omega) only [up_f, up_i, up_eq, tkO_16, tkO_f, keyW_f]); rfl) (fun r139 => ?_)
            refine e_iload dX9_doKeys_140 rfl ?_
            refine e_if_lt (tgt := 174) dX9_doKeys_142 (by decide) (by omega) (fun c142 => ?_) (fun c142 => ?_)
            · skip
              refine e_iconst dX9_doKeys_174 ?_
              refine e_iadd dX9_doKeys_175 ?_
              refine m_st dX9_doKeys_176 hM (by decide) rfl (by omega) (by simp only [mL]; omega) (by omega) (fun hM => ?_)
              refine e_iinc dX9_doKeys_177 (by decide) rfl rfl rfl rfl ?_
              refine e_goto (tgt := 5) dX9_doKeys_180 (by decide) ?_
              rw [show (20 * s + i + 1 : Int) = 20 * s + (i + 1) by omega]
              refine e_mask [true, true, true, false, false] ?_
              refine ih5 _ _ (by omega) (by omega) (by omega) ?_ ht
              rw [es]
              first
                | (refine MM_eq hM (fun f _ _ j => ?_); unfold key1; rw [show keyR S1 s i = 1 from b2_t (by omega)]; done)
                | (refine MM_eq hM (fun f _ _ j => ?_); unfold key1; rw [show keyR S1 s i = 0 from b2_f (by omega)]; done)
            · skip
              refine e_aload_n dX9_doKeys_145 rfl rfl ?_
              refine m_arr 10 dX9_doKeys_146 flX9_28 rfl hM (by decide) ?_
              refine e_iload_n dX9_doKeys_149 rfl rfl ?_
              refine m_ldz dX9_doKeys_150 hM (by decide) rfl (by omega) (by simp only [mL]; omega) (by (try simp (disch := omega) only [up_f, up_i, up_eq, tkO_16, tkO_f, keyW_f]); rfl) (fun r150 => ?_)
              refine e_if_eq (tgt := 174) dX9_doKeys_151 (by decide) (by omega) (fun c151 => ?_) (fun c151 => ?_)
              · skip
                try simp only [b2_0, b2_n0] at c151
                refine e_iconst dX9_doKeys_174 ?_
                refine e_iadd dX9_doKeys_175 ?_
                refine m_st dX9_doKeys_176 hM (by decide) rfl (by omega) (by simp only [mL]; omega) (by omega) (fun hM => ?_)
                refine e_iinc dX9_doKeys_177 (by decide) rfl rfl rfl rfl ?_
                refine e_goto (tgt := 5) dX9_doKeys_180 (by decide) ?_
                rw [show (20 * s + i + 1 : Int) = 20 * s + (i + 1) by omega]
                refine e_mask [true, true, true, false, false] ?_
                refine ih5 _ _ (by omega) (by omega) (by omega) ?_ ht
                rw [es]
                first
                  | (refine MM_eq hM (fun f _ _ j => ?_); unfold key1; rw [show keyR S1 s i = 1 from b2_t (by omega)]; done)
                  | (refine MM_eq hM (fun f _ _ j => ?_); unfold key1; rw [show keyR S1 s i = 0 from b2_f (by omega)]; done)
              · skip
                try simp only [b2_0, b2_n0] at c151
                refine e_aload_n dX9_doKeys_154 rfl rfl ?_
                refine e_iload_n dX9_doKeys_155 rfl rfl ?_
                refine e_iload dX9_doKeys_156 rfl ?_
                refine e_callV (As := [zI _, zI _]) (cb := 10) dX9_doKeys_158 moX9_screenAt mvX9_screenAt mlX9_164 (by decide) rfl hM.1.1 rfl (Nat.le_of_ble_eq_true rfl) ⟨by decide, by decide, by decide, by decide⟩ (c_X9_screenAt hl hM.1 (IN_up hJ2.1 (by omega)) (IW_ag (fun f _ _ j => up_f (by omega)) hJ2.2.1) (IO_ag (fun f hf j => up_f (by omega)) hJ2.2.2.1) _ _ hs0 hs1 (by omega) (by omega)) (fun E h1 q => by cases q.1) (fun v h9 q => ?_)
                obtain ⟨e1, e2⟩ := q; cases e1; rw [e2]; clear e2 h9
                rw [screenAt_ag (S := keyW S1 s i) (fun f _ _ j => up_f (by omega)) _ _]
                refine e_G (fun G => ?_)
                have rs : zin (screenAt (keyW S1 s i) s (placeOf S1 (S1 18 (20 * s + i)) (S1 20 (20 * s + i)))) := by
                  rw [← screenAt_ag (S := keyW S1 s i) (S' := up (keyW S1 s i) 38 (S1 21 (20 * s + i)) (S1 38 (S1 21 (20 * s + i)) + 1)) (fun f _ _ j => up_f (by omega)) _ _]
                  exact screen_in hM.1 G
                refine e_aload_n dX9_doKeys_161 rfl rfl ?_
                refine m_arr 19 dX9_doKeys_162 flX9_56 rfl hM (by decide) ?_
                refine e_iload_n dX9_doKeys_165 rfl rfl ?_
                refine m_ld dX9_doKeys_166 hM (by decide) rfl (by omega) (by simp only [mL]; omega) (by (try simp (disch := omega) only [up_f, up_i, up_eq, tkO_16, tkO_f, keyW_f]); rfl) (fun r166 => ?_)
                refine e_icmp_ne (tgt := 174) dX9_doKeys_167 (by decide) (by omega) (by omega) (fun c167 => ?_) (fun c167 => ?_)
                · skip
                  refine e_iconst dX9_doKeys_174 ?_
                  refine e_iadd dX9_doKeys_175 ?_
                  refine m_st dX9_doKeys_176 hM (by decide) rfl (by omega) (by simp only [mL]; omega) (by omega) (fun hM => ?_)
                  refine e_iinc dX9_doKeys_177 (by decide) rfl rfl rfl rfl ?_
                  refine e_goto (tgt := 5) dX9_doKeys_180 (by decide) ?_
                  rw [show (20 * s + i + 1 : Int) = 20 * s + (i + 1) by omega]
                  refine e_mask [true, true, true, false, false] ?_
                  refine ih5 _ _ (by omega) (by omega) (by omega) ?_ ht
                  rw [es]
                  first
                    | (refine MM_eq hM (fun f _ _ j => ?_); unfold key1; rw [show keyR S1 s i = 1 from b2_t (by omega)]; done)
                    | (refine MM_eq hM (fun f _ _ j => ?_); unfold key1; rw [show keyR S1 s i = 0 from b2_f (by omega)]; done)
                · skip
                  refine e_iconst dX9_doKeys_170 ?_
                  refine e_goto (tgt := 175) dX9_doKeys_171 (by decide) ?_
                  refine e_iadd dX9_doKeys_175 ?_
                  refine m_st dX9_doKeys_176 hM (by decide) rfl (by omega) (by simp only [mL]; omega) (by omega) (fun hM => ?_)
                  refine e_iinc dX9_doKeys_177 (by decide) rfl rfl rfl rfl ?_
                  refine e_goto (tgt := 5) dX9_doKeys_180 (by decide) ?_
                  rw [show (20 * s + i + 1 : Int) = 20 * s + (i + 1) by omega]
                  refine e_mask [true, true, true, false, false] ?_
                  refine ih5 _ _ (by omega) (by omega) (by omega) ?_ ht
                  rw [es]
                  first
                    | (refine MM_eq hM (fun f _ _ j => ?_); unfold key1; rw [show keyR S1 s i = 1 from b2_t (by omega)]; done)
                    | (refine MM_eq hM (fun f _ _ j => ?_); unfold key1; rw [show keyR S1 s i = 0 from b2_f (by omega)]; done)
          · skip
            try simp only [b2_0, b2_n0] at c57
            refine e_bipush dX9_doKeys_60 (by decide) ?_
            refine e_goto (tgt := 71) dX9_doKeys_62 (by decide) ?_
            refine m_st dX9_doKeys_71 hM (by decide) rfl (by omega) (by simp only [mL]; omega) (by omega) (fun hM => ?_)
            refine e_aload_n dX9_doKeys_72 rfl rfl ?_
            refine m_arr 9 dX9_doKeys_73 flX9_25 rfl hM (by decide) ?_
            refine e_iload_n dX9_doKeys_76 rfl rfl ?_
            refine e_aload_n dX9_doKeys_77 rfl rfl ?_
            refine m_arr 9 dX9_doKeys_78 flX9_25 rfl hM (by decide) ?_
            refine e_iload_n dX9_doKeys_81 rfl rfl ?_
            refine m_ld dX9_doKeys_82 hM (by decide) rfl (by omega) (by simp only [mL]; omega) (by (try simp (disch := omega) only [up_f, up_i, up_eq, tkO_16, tkO_f, keyW_f]); rfl) (fun r82 => ?_)
            refine e_iconst dX9_doKeys_83 ?_
            refine e_iadd dX9_doKeys_84 ?_
            refine e_aload_n dX9_doKeys_85 rfl rfl ?_
            refine m_arr 7 dX9_doKeys_86 flX9_19 rfl hM (by decide) ?_
            refine e_iload_n dX9_doKeys_89 rfl rfl ?_
            refine m_ld dX9_doKeys_90 hM (by decide) rfl (by omega) (by simp only [mL]; omega) (by (try simp (disch := omega) only [up_f, up_i, up_eq, tkO_16, tkO_f, keyW_f]); rfl) (fun r90 => ?_)
            refine e_aload_n dX9_doKeys_91 rfl rfl ?_
            refine m_arr 8 dX9_doKeys_92 flX9_22 rfl hM (by decide) ?_
            refine e_iload_n dX9_doKeys_95 rfl rfl ?_
            refine m_ld dX9_doKeys_96 hM (by decide) rfl (by omega) (by simp only [mL]; omega) (by (try simp (disch := omega) only [up_f, up_i, up_eq, tkO_16, tkO_f, keyW_f]); rfl) (fun r96 => ?_)
            refine e_imul dX9_doKeys_97 ?_
            refine e_irem dX9_doKeys_98 (by omega) (by omega) (by omega) (by omega) ?_
            have gm := Int.emod_nonneg (S1 9 (S1 18 (20 * s + i)) + 1) (b := S1 7 (S1 18 (20 * s + i)) * S1 8 (S1 18 (20 * s + i))) (by omega)
            have gl := Int.emod_lt_of_pos (S1 9 (S1 18 (20 * s + i)) + 1) (b := S1 7 (S1 18 (20 * s + i)) * S1 8 (S1 18 (20 * s + i))) (by omega)
            refine m_st dX9_doKeys_99 hM (by decide) rfl (by omega) (by simp only [mL]; omega) (by omega) (fun hM => ?_)
            first
              | (have ew : keyW S1 s i = up (up S1 14 (96 * S1 18 (20 * s + i) + S1 9 (S1 18 (20 * s + i))) 7) 9 (S1 18 (20 * s + i)) ((S1 9 (S1 18 (20 * s + i)) + 1) % (S1 7 (S1 18 (20 * s + i)) * S1 8 (S1 18 (20 * s + i)))) := (by
                  unfold keyW
                  rw [if_pos (by omega), if_pos (by omega)])
                 rw [← ew] at hM)
              | (have ew : keyW S1 s i = up (up S1 14 (96 * S1 18 (20 * s + i) + S1 9 (S1 18 (20 * s + i))) (S1 19 (20 * s + i))) 9 (S1 18 (20 * s + i)) ((S1 9 (S1 18 (20 * s + i)) + 1) % (S1 7 (S1 18 (20 * s + i)) * S1 8 (S1 18 (20 * s + i)))) := (by
                  unfold keyW
                  rw [if_pos (by omega), if_neg (by omega)])
                 rw [← ew] at hM)
            refine e_aload_n dX9_doKeys_100 rfl rfl ?_
            refine e_iload_n dX9_doKeys_101 rfl rfl ?_
            refine e_aload_n dX9_doKeys_102 rfl rfl ?_
            refine m_arr 20 dX9_doKeys_103 flX9_59 rfl hM (by decide) ?_
            refine e_iload_n dX9_doKeys_106 rfl rfl ?_
            refine m_ld dX9_doKeys_107 hM (by decide) rfl (by omega) (by simp only [mL]; omega) (by (try simp (disch := omega) only [up_f, up_i, up_eq, tkO_16, tkO_f, keyW_f]); rfl) (fun r107 => ?_)
            refine e_callV (As := [zI _, zI _]) (cb := 10) dX9_doKeys_108 moX9_placeOf mvX9_placeOf mlX9_183 (by decide) rfl hM.1.1 rfl (Nat.le_of_ble_eq_true rfl) ⟨by decide, by decide, by decide, by decide⟩ (c_X9_placeOf hl hM.1 _ _ (by omega) (by omega) (hJ2.2.1 s _ (by simp only [hasW, keyW_f (f := 4) (by omega)]; exact q3.1)) q45 (by omega)) (fun E h1 q => by cases q.1) (fun v h9 q => ?_)
            obtain ⟨e1, e2⟩ := q; cases e1; rw [e2]; clear e2 h9
            rw [placeOf_ag2 (S := S1) (fun f _ _ j => keyW_f (by omega)) _ _]
            have pl := placeOf_in (S := S1) (w := S1 18 (20 * s + i)) (c := S1 20 (20 * s + i))
            refine e_istore dX9_doKeys_111 (by decide) rfl rfl ?_
            refine e_aload_n dX9_doKeys_113 rfl rfl ?_
            refine m_arr 38 dX9_doKeys_114 flX9_113 rfl hM (by decide) ?_
            refine e_aload_n dX9_doKeys_117 rfl rfl ?_
            refine m_arr 21 dX9_doKeys_118 flX9_62 rfl hM (by decide) ?_
            refine e_iload_n dX9_doKeys_121 rfl rfl ?_
            refine m_ld dX9_doKeys_122 hM (by decide) rfl (by omega) (by simp only [mL]; omega) (by (try simp (disch := omega) only [up_f, up_i, up_eq, tkO_16, tkO_f, keyW_f]); rfl) (fun r122 => ?_)
            refine e_dup2 dX9_doKeys_123 rfl rfl ?_
            refine m_ld dX9_doKeys_124 hM (by decide) rfl (by omega) (by simp only [mL]; omega) (by (try simp (disch := omega) only [up_f, up_i, up_eq, tkO_16, tkO_f, keyW_f]); rfl) (fun r124 => ?_)
            refine e_iconst dX9_doKeys_125 ?_
            refine e_iadd dX9_doKeys_126 ?_
            refine m_st dX9_doKeys_127 hM (by decide) rfl (by omega) (by simp only [mL]; omega) (by omega) (fun hM => ?_)
            refine e_aload_n dX9_doKeys_128 rfl rfl ?_
            refine m_arr 39 dX9_doKeys_129 flX9_116 rfl hM (by decide) ?_
            refine e_aload_n dX9_doKeys_132 rfl rfl ?_
            refine m_arr 21 dX9_doKeys_133 flX9_62 rfl hM (by decide) ?_
            refine e_iload_n dX9_doKeys_136 rfl rfl ?_
            refine m_ld dX9_doKeys_137 hM (by decide) rfl (by omega) (by simp only [mL]; omega) (by (try simp (disch := omega) only [up_f, up_i, up_eq, tkO_16, tkO_f, keyW_f]); rfl) (fun r137 => ?_)
            refine e_dup2 dX9_doKeys_138 rfl rfl ?_
            refine m_ld dX9_doKeys_139 hM (by decide) rfl (by omega) (by simp only [mL]; omega) (by (try simp (disch := omega) only [up_f, up_i, up_eq, tkO_16, tkO_f, keyW_f]); rfl) (fun r139 => ?_)
            refine e_iload dX9_doKeys_140 rfl ?_
            refine e_if_lt (tgt := 174) dX9_doKeys_142 (by decide) (by omega) (fun c142 => ?_) (fun c142 => ?_)
            · skip
              refine e_iconst dX9_doKeys_174 ?_
              refine e_iadd dX9_doKeys_175 ?_
              refine m_st dX9_doKeys_176 hM (by decide) rfl (by omega) (by simp only [mL]; omega) (by omega) (fun hM => ?_)
              refine e_iinc dX9_doKeys_177 (by decide) rfl rfl rfl rfl ?_
              refine e_goto (tgt := 5) dX9_doKeys_180 (by decide) ?_
              rw [show (20 * s + i + 1 : Int) = 20 * s + (i + 1) by omega]
              refine e_mask [true, true, true, false, false] ?_
              refine ih5 _ _ (by omega) (by omega) (by omega) ?_ ht
              rw [es]
              first
                | (refine MM_eq hM (fun f _ _ j => ?_); unfold key1; rw [show keyR S1 s i = 1 from b2_t (by omega)]; done)
                | (refine MM_eq hM (fun f _ _ j => ?_); unfold key1; rw [show keyR S1 s i = 0 from b2_f (by omega)]; done)
            · skip
              refine e_aload_n dX9_doKeys_145 rfl rfl ?_
              refine m_arr 10 dX9_doKeys_146 flX9_28 rfl hM (by decide) ?_
              refine e_iload_n dX9_doKeys_149 rfl rfl ?_
              refine m_ldz dX9_doKeys_150 hM (by decide) rfl (by omega) (by simp only [mL]; omega) (by (try simp (disch := omega) only [up_f, up_i, up_eq, tkO_16, tkO_f, keyW_f]); rfl) (fun r150 => ?_)
              refine e_if_eq (tgt := 174) dX9_doKeys_151 (by decide) (by omega) (fun c151 => ?_) (fun c151 => ?_)
              · skip
                try simp only [b2_0, b2_n0] at c151
                refine e_iconst dX9_doKeys_174 ?_
                refine e_iadd dX9_doKeys_175 ?_
                refine m_st dX9_doKeys_176 hM (by decide) rfl (by omega) (by simp only [mL]; omega) (by omega) (fun hM => ?_)
                refine e_iinc dX9_doKeys_177 (by decide) rfl rfl rfl rfl ?_
                refine e_goto (tgt := 5) dX9_doKeys_180 (by decide) ?_
                rw [show (20 * s + i + 1 : Int) = 20 * s + (i + 1) by omega]
                refine e_mask [true, true, true, false, false] ?_
                refine ih5 _ _ (by omega) (by omega) (by omega) ?_ ht
                rw [es]
                first
                  | (refine MM_eq hM (fun f _ _ j => ?_); unfold key1; rw [show keyR S1 s i = 1 from b2_t (by omega)]; done)
                  | (refine MM_eq hM (fun f _ _ j => ?_); unfold key1; rw [show keyR S1 s i = 0 from b2_f (by omega)]; done)
              · skip
                try simp only [b2_0, b2_n0] at c151
                refine e_aload_n dX9_doKeys_154 rfl rfl ?_
                refine e_iload_n dX9_doKeys_155 rfl rfl ?_
                refine e_iload dX9_doKeys_156 rfl ?_
                refine e_callV (As := [zI _, zI _]) (cb := 10) dX9_doKeys_158 moX9_screenAt mvX9_screenAt mlX9_164 (by decide) rfl hM.1.1 rfl (Nat.le_of_ble_eq_true rfl) ⟨by decide, by decide, by decide, by decide⟩ (c_X9_screenAt hl hM.1 (IN_up hJ2.1 (by omega)) (IW_ag (fun f _ _ j => up_f (by omega)) hJ2.2.1) (IO_ag (fun f hf j => up_f (by omega)) hJ2.2.2.1) _ _ hs0 hs1 (by omega) (by omega)) (fun E h1 q => by cases q.1) (fun v h9 q => ?_)
                obtain ⟨e1, e2⟩ := q; cases e1; rw [e2]; clear e2 h9
                rw [screenAt_ag (S := keyW S1 s i) (fun f _ _ j => up_f (by omega)) _ _]
                refine e_G (fun G => ?_)
                have rs : zin (screenAt (keyW S1 s i) s (placeOf S1 (S1 18 (20 * s + i)) (S1 20 (20 * s + i)))) := by
                  rw [← screenAt_ag (S := keyW S1 s i) (S' := up (keyW S1 s i) 38 (S1 21 (20 * s + i)) (S1 38 (S1 21 (20 * s + i)) + 1)) (fun f _ _ j => up_f (by omega)) _ _]
                  exact screen_in hM.1 G
                refine e_aload_n dX9_doKeys_161 rfl rfl ?_
                refine m_arr 19 dX9_doKeys_162 flX9_56 rfl hM (by decide) ?_
                refine e_iload_n dX9_doKeys_165 rfl rfl ?_
                refine m_ld dX9_doKeys_166 hM (by decide) rfl (by omega) (by simp only [mL]; omega) (by (try simp (disch := omega) only [up_f, up_i, up_eq, tkO_16, tkO_f, keyW_f]); rfl) (fun r166 => ?_)
                refine e_icmp_ne (tgt := 174) dX9_doKeys_167 (by decide) (by omega) (by omega) (fun c167 => ?_) (fun c167 => ?_)
                · skip
                  refine e_iconst dX9_doKeys_174 ?_
                  refine e_iadd dX9_doKeys_175 ?_
                  refine m_st dX9_doKeys_176 hM (by decide) rfl (by omega) (by simp only [mL]; omega) (by omega) (fun hM => ?_)
                  refine e_iinc dX9_doKeys_177 (by decide) rfl rfl rfl rfl ?_
                  refine e_goto (tgt := 5) dX9_doKeys_180 (by decide) ?_
                  rw [show (20 * s + i + 1 : Int) = 20 * s + (i + 1) by omega]
                  refine e_mask [true, true, true, false, false] ?_
                  refine ih5 _ _ (by omega) (by omega) (by omega) ?_ ht
                  rw [es]
                  first
                    | (refine MM_eq hM (fun f _ _ j => ?_); unfold key1; rw [show keyR S1 s i = 1 from b2_t (by omega)]; done)
                    | (refine MM_eq hM (fun f _ _ j => ?_); unfold key1; rw [show keyR S1 s i = 0 from b2_f (by omega)]; done)
                · skip
                  refine e_iconst dX9_doKeys_170 ?_
                  refine e_goto (tgt := 175) dX9_doKeys_171 (by decide) ?_
                  refine e_iadd dX9_doKeys_175 ?_
                  refine m_st dX9_doKeys_176 hM (by decide) rfl (by omega) (by simp only [mL]; omega) (by omega) (fun hM => ?_)
                  refine e_iinc dX9_doKeys_177 (by decide) rfl rfl rfl rfl ?_
                  refine e_goto (tgt := 5) dX9_doKeys_180 (by decide) ?_
                  rw [show (20 * s + i + 1 : Int) = 20 * s + (i + 1) by omega]
                  refine e_mask [true, true, true, false, false] ?_
                  refine ih5 _ _ (by omega) (by omega) (by omega) ?_ ht
                  rw [es]
                  first
                    | (refine MM_eq hM (fun f _ _ j => ?_); unfold key1; rw [show keyR S1 s i = 1 from b2_t (by omega)]; done)
                    | (refine MM_eq hM (fun f _ _ j => ?_); unfold key1; rw [show keyR S1 s i = 0 from b2_f (by omega)]; done)
  have hl0 := lp5 21 0 _ (by omega) (by omega) (by omega) hM rfl
  rw [Int.add_zero] at hl0
  exact hl0
set_option maxHeartbeats 4000000 in
set_option maxRecDepth 100000 in
theorem c_X9_isLeft {l : Launch} (hl : l.stackTraces = false) {S : S9} {h : zH} (hM : RM S h) (hJ : JJ S) (s r : Int) (hs0 : 0 ≤ s) (hs1 : s < 4) (hr0 : 0 ≤ r) (hr1 : r < 8) : zC l MX9_isLeft [zR (some 99), zI s, zI r] h (fun o h' => o = .inl (some (zI (isL S s r))) ∧ h' = h) := by
  refine zC_of hl rfl rfl (by decide) rfl rfl (Nat.le_of_ble_eq_true rfl) ?_
  have hM : MM S h h := MM_rf hM
  have hN := hJ.1
  have hI := hJ.2.1
  have hO := hJ.2.2.1
  have hC := hJ.2.2.2.1
  have hK := hJ.2.2.2.2
  refine e_aload_n dX9_isLeft_0 rfl rfl ?_
  refine m_arr 29 dX9_isLeft_1 flX9_86 rfl hM (by decide) ?_
  refine e_bipush dX9_isLeft_4 (by decide) ?_
  refine e_iload_n dX9_isLeft_6 rfl rfl ?_
  refine e_imul dX9_isLeft_7 ?_
  refine e_iload_n dX9_isLeft_8 rfl rfl ?_
  refine e_iadd dX9_isLeft_9 ?_
  refine m_ldz dX9_isLeft_10 hM (by decide) rfl (by omega) (by simp only [mL]; omega) rfl (fun r10 => ?_)
  refine e_if_ne (tgt := 18) dX9_isLeft_11 (by decide) (by omega) (fun c11 => ?_) (fun c11 => ?_)
  · skip
    try simp only [b2_0, b2_n0] at c11
    refine e_iconst dX9_isLeft_18 ?_
    refine e_istore_n dX9_isLeft_19 rfl (by decide) rfl rfl ?_
    refine e_iconst dX9_isLeft_20 ?_
    refine e_istore dX9_isLeft_21 (by decide) rfl rfl ?_
    have lp23 : ∀ (d : Nat) (k v : Int), (12 - k).toNat < d → 0 ≤ k → k ≤ 12 → v = isLN S s r k.toNat → AW l MX9_isLeft (fun o h' => o = .inl (some (zI (isL S s r))) ∧ h' = h) 0 0 23 [zR (some 99), zI s, zI r, zI v, zI k, zX] [] h := by
      intro d
      induction d with
      | zero => intro k v hd k0 k1 hv; exact absurd hd (by omega)
      | succ d ih =>
        have ih23 := ih
        intro k v hd k0 k1 hv
        have v01 := isLN_01 (S := S) (s := s) (r := r) k.toNat
        have es : isLN S s r (k + 1).toNat = b2 (v = 1 ∨ S 30 (96 * s + (r * 12 + k)) ≠ screenAt S s (r * 12 + k)) := by
          rw [show (k + 1).toNat = k.toNat + 1 by omega, isLN_s, ← hv, show ((k.toNat : Nat) : Int) = k by omega]
        refine e_iload dX9_isLeft_23 rfl ?_
        refine e_bipush dX9_isLeft_25 (by decide) ?_
        refine e_icmp_ge (tgt := 77) dX9_isLeft_27 (by decide) (by omega) (by omega) (fun c27 => ?_) (fun c27 => ?_)
        · skip
          refine e_iload_n dX9_isLeft_77 rfl rfl ?_
          refine e_iret dX9_isLeft_78 rfl (by rw [hv]; exact v01) (by decide) (by decide) ?_
          exact ⟨zqe (by rw [hv, show k = 12 by omega]; rfl), rfl⟩
        · skip
          refine e_iload_n dX9_isLeft_30 rfl rfl ?_
          refine e_bipush dX9_isLeft_31 (by decide) ?_
          refine e_imul dX9_isLeft_33 ?_
          refine e_iload dX9_isLeft_34 rfl ?_
          refine e_iadd dX9_isLeft_36 ?_
          refine e_istore dX9_isLeft_37 (by decide) rfl rfl ?_
          refine e_iload_n dX9_isLeft_39 rfl rfl ?_
          refine e_if_ne (tgt := 65) dX9_isLeft_40 (by decide) (by omega) (fun c40 => ?_) (fun c40 => ?_)
          · skip
            try simp only [b2_0, b2_n0] at c40
            refine e_iconst dX9_isLeft_65 ?_
            refine e_goto (tgt := 70) dX9_isLeft_66 (by decide) ?_
            refine e_istore_n dX9_isLeft_70 rfl (by decide) rfl rfl ?_
            refine e_iinc dX9_isLeft_71 (by decide) rfl rfl rfl rfl ?_
            refine e_goto (tgt := 23) dX9_isLeft_74 (by decide) ?_
            refine e_mask [true, true, true, true, true, false] ?_
            exact ih23 _ _ (by omega) (by omega) (by omega) (by rw [es]; first | (rw [b2_t (by omega)]; done) | (rw [b2_f (by omega)]; done))
          · skip
            try simp only [b2_0, b2_n0] at c40
            refine e_aload_n dX9_isLeft_43 rfl rfl ?_
            refine m_arr 30 dX9_isLeft_44 flX9_89 rfl hM (by decide) ?_
            refine e_bipush dX9_isLeft_47 (by decide) ?_
            refine e_iload_n dX9_isLeft_49 rfl rfl ?_
            refine e_imul dX9_isLeft_50 ?_
            refine e_iload dX9_isLeft_51 rfl ?_
            refine e_iadd dX9_isLeft_53 ?_
            refine m_ld dX9_isLeft_54 hM (by decide) rfl (by omega) (by simp only [mL]; omega) rfl (fun r54 => ?_)
            refine e_aload_n dX9_isLeft_55 rfl rfl ?_
            refine e_iload_n dX9_isLeft_56 rfl rfl ?_
            refine e_iload dX9_isLeft_57 rfl ?_
            refine e_callV (As := [zI _, zI _]) (cb := 10) dX9_isLeft_59 moX9_screenAt mvX9_screenAt mlX9_164 (by decide) rfl hM.1.1 rfl (Nat.le_of_ble_eq_true rfl) ⟨by decide, by decide, by decide, by decide⟩ (c_X9_screenAt hl hM.1 hN hI hO _ _ hs0 hs1 (by omega) (by omega)) (fun E h1 q => by cases q.1) (fun v h9 q => ?_)
            obtain ⟨e1, e2⟩ := q; cases e1; rw [e2]; clear e2 h9
            refine e_G (fun G => ?_)
            have rs := screen_in (s := s) (p := r * 12 + k) hM.1 G
            refine e_icmp_eq (tgt := 69) dX9_isLeft_62 (by decide) (by omega) (by omega) (fun c62 => ?_) (fun c62 => ?_)
            · skip
              refine e_iconst dX9_isLeft_69 ?_
              refine e_istore_n dX9_isLeft_70 rfl (by decide) rfl rfl ?_
              refine e_iinc dX9_isLeft_71 (by decide) rfl rfl rfl rfl ?_
              refine e_goto (tgt := 23) dX9_isLeft_74 (by decide) ?_
              refine e_mask [true, true, true, true, true, false] ?_
              exact ih23 _ _ (by omega) (by omega) (by omega) (by rw [es]; first | (rw [b2_t (by omega)]; done) | (rw [b2_f (by omega)]; done))
            · skip
              refine e_iconst dX9_isLeft_65 ?_
              refine e_goto (tgt := 70) dX9_isLeft_66 (by decide) ?_
              refine e_istore_n dX9_isLeft_70 rfl (by decide) rfl rfl ?_
              refine e_iinc dX9_isLeft_71 (by decide) rfl rfl rfl rfl ?_
              refine e_goto (tgt := 23) dX9_isLeft_74 (by decide) ?_
              refine e_mask [true, true, true, true, true, false] ?_
              exact ih23 _ _ (by omega) (by omega) (by omega) (by rw [es]; first | (rw [b2_t (by omega)]; done) | (rw [b2_f (by omega)]; done))
    exact lp23 13 0 _ (by omega) (by omega) (by omega) (by show _ = b2 _; first | (rw [b2_t (by omega)]; done) | (rw [b2_f (by omega)]; done))
  · skip
    try simp only [b2_0, b2_n0] at c11
    refine e_iconst dX9_isLeft_14 ?_
    refine e_goto (tgt := 19) dX9_isLeft_15 (by decide) ?_
    refine e_istore_n dX9_isLeft_19 rfl (by decide) rfl rfl ?_
    refine e_iconst dX9_isLeft_20 ?_
    refine e_istore dX9_isLeft_21 (by decide) rfl rfl ?_
    have lp23 : ∀ (d : Nat) (k v : Int), (12 - k).toNat < d → 0 ≤ k → k ≤ 12 → v = isLN S s r k.toNat → AW l MX9_isLeft (fun o h' => o = .inl (some (zI (isL S s r))) ∧ h' = h) 0 0 23 [zR (some 99), zI s, zI r, zI v, zI k, zX] [] h := by
      intro d
      induction d with
      | zero => intro k v hd k0 k1 hv; exact absurd hd (by omega)
      | succ d ih =>
        have ih23 := ih
        intro k v hd k0 k1 hv
        have v01 := isLN_01 (S := S) (s := s) (r := r) k.toNat
        have es : isLN S s r (k + 1).toNat = b2 (v = 1 ∨ S 30 (96 * s + (r * 12 + k)) ≠ screenAt S s (r * 12 + k)) := by
          rw [show (k + 1).toNat = k.toNat + 1 by omega, isLN_s, ← hv, show ((k.toNat : Nat) : Int) = k by omega]
        refine e_iload dX9_isLeft_23 rfl ?_
        refine e_bipush dX9_isLeft_25 (by decide) ?_
        refine e_icmp_ge (tgt := 77) dX9_isLeft_27 (by decide) (by omega) (by omega) (fun c27 => ?_) (fun c27 => ?_)
        · skip
          refine e_iload_n dX9_isLeft_77 rfl rfl ?_
          refine e_iret dX9_isLeft_78 rfl (by rw [hv]; exact v01) (by decide) (by decide) ?_
          exact ⟨zqe (by rw [hv, show k = 12 by omega]; rfl), rfl⟩
        · skip
          refine e_iload_n dX9_isLeft_30 rfl rfl ?_
          refine e_bipush dX9_isLeft_31 (by decide) ?_
          refine e_imul dX9_isLeft_33 ?_
          refine e_iload dX9_isLeft_34 rfl ?_
          refine e_iadd dX9_isLeft_36 ?_
          refine e_istore dX9_isLeft_37 (by decide) rfl rfl ?_
          refine e_iload_n dX9_isLeft_39 rfl rfl ?_
          refine e_if_ne (tgt := 65) dX9_isLeft_40 (by decide) (by omega) (fun c40 => ?_) (fun c40 => ?_)
          · skip
            try simp only [b2_0, b2_n0] at c40
            refine e_iconst dX9_isLeft_65 ?_
            refine e_goto (tgt := 70) dX9_isLeft_66 (by decide) ?_
            refine e_istore_n dX9_isLeft_70 rfl (by decide) rfl rfl ?_
            refine e_iinc dX9_isLeft_71 (by decide) rfl rfl rfl rfl ?_
            refine e_goto (tgt := 23) dX9_isLeft_74 (by decide) ?_
            refine e_mask [true, true, true, true, true, false] ?_
            exact ih23 _ _ (by omega) (by omega) (by omega) (by rw [es]; first | (rw [b2_t (by omega)]; done) | (rw [b2_f (by omega)]; done))
          · skip
            try simp only [b2_0, b2_n0] at c40
            refine e_aload_n dX9_isLeft_43 rfl rfl ?_
            refine m_arr 30 dX9_isLeft_44 flX9_89 rfl hM (by decide) ?_
            refine e_bipush dX9_isLeft_47 (by decide) ?_
            refine e_iload_n dX9_isLeft_49 rfl rfl ?_
            refine e_imul dX9_isLeft_50 ?_
            refine e_iload dX9_isLeft_51 rfl ?_
            refine e_iadd dX9_isLeft_53 ?_
            refine m_ld dX9_isLeft_54 hM (by decide) rfl (by omega) (by simp only [mL]; omega) rfl (fun r54 => ?_)
            refine e_aload_n dX9_isLeft_55 rfl rfl ?_
            refine e_iload_n dX9_isLeft_56 rfl rfl ?_
            refine e_iload dX9_isLeft_57 rfl ?_
            refine e_callV (As := [zI _, zI _]) (cb := 10) dX9_isLeft_59 moX9_screenAt mvX9_screenAt mlX9_164 (by decide) rfl hM.1.1 rfl (Nat.le_of_ble_eq_true rfl) ⟨by decide, by decide, by decide, by decide⟩ (c_X9_screenAt hl hM.1 hN hI hO _ _ hs0 hs1 (by omega) (by omega)) (fun E h1 q => by cases q.1) (fun v h9 q => ?_)
            obtain ⟨e1, e2⟩ := q; cases e1; rw [e2]; clear e2 h9
            refine e_G (fun G => ?_)
            have rs := screen_in (s := s) (p := r * 12 + k) hM.1 G
            refine e_icmp_eq (tgt := 69) dX9_isLeft_62 (by decide) (by omega) (by omega) (fun c62 => ?_) (fun c62 => ?_)
            · skip
              refine e_iconst dX9_isLeft_69 ?_
              refine e_istore_n dX9_isLeft_70 rfl (by decide) rfl rfl ?_
              refine e_iinc dX9_isLeft_71 (by decide) rfl rfl rfl rfl ?_
              refine e_goto (tgt := 23) dX9_isLeft_74 (by decide) ?_
              refine e_mask [true, true, true, true, true, false] ?_
              exact ih23 _ _ (by omega) (by omega) (by omega) (by rw [es]; first | (rw [b2_t (by omega)]; done) | (rw [b2_f (by omega)]; done))
            · skip
              refine e_iconst dX9_isLeft_65 ?_
              refine e_goto (tgt := 70) dX9_isLeft_66 (by decide) ?_
              refine e_istore_n dX9_isLeft_70 rfl (by decide) rfl rfl ?_
              refine e_iinc dX9_isLeft_71 (by decide) rfl rfl rfl rfl ?_
              refine e_goto (tgt := 23) dX9_isLeft_74 (by decide) ?_
              refine e_mask [true, true, true, true, true, false] ?_
              exact ih23 _ _ (by omega) (by omega) (by omega) (by rw [es]; first | (rw [b2_t (by omega)]; done) | (rw [b2_f (by omega)]; done))
    exact lp23 13 0 _ (by omega) (by omega) (by omega) (by show _ = b2 _; first | (rw [b2_t (by omega)]; done) | (rw [b2_f (by omega)]; done))
set_option maxHeartbeats 4000000 in
set_option maxRecDepth 100000 in
theorem c_X9_countLeft {l : Launch} (hl : l.stackTraces = false) {S : S9} {h : zH} (hM : RM S h) (hJ : JJ S) (s : Int) (hs0 : 0 ≤ s) (hs1 : s < 4) : zC l MX9_countLeft [zR (some 99), zI s] h (fun o h' => o = .inl (some (zI (cntL S s))) ∧ h' = h) := by
  refine zC_of hl rfl rfl (by decide) rfl rfl (Nat.le_of_ble_eq_true rfl) ?_
  have hM : MM S h h := MM_rf hM
  refine e_iconst dX9_countLeft_0 ?_
  refine e_istore_n dX9_countLeft_1 rfl (by decide) rfl rfl ?_
  refine e_iconst dX9_countLeft_2 ?_
  refine e_istore_n dX9_countLeft_3 rfl (by decide) rfl rfl ?_
  have lp4 : ∀ (d : Nat) (r v : Int), (8 - r).toNat < d → 0 ≤ r → r ≤ 8 → v = sg (fun r => isL S s r) r.toNat → AW l MX9_countLeft (fun o h' => o = .inl (some (zI (cntL S s))) ∧ h' = h) 0 0 4 [zR (some 99), zI s, zI v, zI r] [] h := by
    intro d
    induction d with
    | zero => intro r v hd r0 r1 hv; exact absurd hd (by omega)
    | succ d ih =>
      have ih4 := ih
      intro r v hd r0 r1 hv
      have cc := sg_in1 (f := fun r => isL S s r) (fun _ _ => isL_le) r r0
      have il := isL_le (S := S) (s := s) (r := r)
      refine e_iload_n dX9_countLeft_4 rfl rfl ?_
      refine e_bipush dX9_countLeft_5 (by decide) ?_
      refine e_icmp_ge (tgt := 33) dX9_countLeft_7 (by decide) (by omega) (by omega) (fun c7 => ?_) (fun c7 => ?_)
      · skip
        refine e_iload_n dX9_countLeft_33 rfl rfl ?_
        refine e_iret dX9_countLeft_34 rfl trivial (by decide) (by decide) ?_
        exact ⟨zqe (by rw [hv, show r = 8 by omega]; rfl), rfl⟩
      · skip
        refine e_iload_n dX9_countLeft_10 rfl rfl ?_
        refine e_aload_n dX9_countLeft_11 rfl rfl ?_
        refine e_iload_n dX9_countLeft_12 rfl rfl ?_
        refine e_iload_n dX9_countLeft_13 rfl rfl ?_
        refine e_callV (As := [zI _, zI _]) (cb := 10) dX9_countLeft_14 moX9_isLeft mvX9_isLeft mlX9_261 (by decide) rfl hM.1.1 rfl (Nat.le_of_ble_eq_true rfl) ⟨by decide, by decide, by decide, by decide⟩ (c_X9_isLeft hl hM.1 hJ _ _ hs0 hs1 r0 (by omega)) (fun E h1 q => by cases q.1) (fun v h9 q => ?_)
        obtain ⟨e1, e2⟩ := q; cases e1; rw [e2]; clear e2 h9
        refine e_if_eq (tgt := 24) dX9_countLeft_17 (by decide) (by omega) (fun c17 => ?_) (fun c17 => ?_)
        · skip
          try simp only [b2_0, b2_n0] at c17
          refine e_iconst dX9_countLeft_24 ?_
          refine e_iadd dX9_countLeft_25 ?_
          refine e_istore_n dX9_countLeft_26 rfl (by decide) rfl rfl ?_
          refine e_iinc dX9_countLeft_27 (by decide) rfl rfl rfl rfl ?_
          refine e_goto (tgt := 4) dX9_countLeft_30 (by decide) ?_
          exact ih4 _ _ (by omega) (by omega) (by omega) (by rw [sg_s r0, ← hv]; omega)
        · skip
          try simp only [b2_0, b2_n0] at c17
          refine e_iconst dX9_countLeft_20 ?_
          refine e_goto (tgt := 25) dX9_countLeft_21 (by decide) ?_
          refine e_iadd dX9_countLeft_25 ?_
          refine e_istore_n dX9_countLeft_26 rfl (by decide) rfl rfl ?_
          refine e_iinc dX9_countLeft_27 (by decide) rfl rfl rfl rfl ?_
          refine e_goto (tgt := 4) dX9_countLeft_30 (by decide) ?_
          exact ih4 _ _ (by omega) (by omega) (by omega) (by rw [sg_s r0, ← hv]; omega)
  exact lp4 9 0 0 (by omega) (by omega) (by omega) rfl
set_option maxHeartbeats 4000000 in
set_option maxRecDepth 100000 in
theorem c_X9_copyRows {l : Launch} (hl : l.stackTraces = false) {S : S9} {h : zH} (hM : RM S h) (hJ : JJ S) (s : Int) (hs0 : 0 ≤ s) (hs1 : s < 4) (hB : 0 ≤ S 28 s ∧ S 28 s ≤ 1000000000) : zC l MX9_copyRows [zR (some 99), zI s] h (fun o h' => o = .inl none ∧ MM (rowsS S s) h h' ∧ zf h' 1000 99 = zf h 1000 99) := by
  refine zC_of hl rfl rfl (by decide) rfl rfl (Nat.le_of_ble_eq_true rfl) ?_
  have hM : MM S h h := MM_rf hM
  have hN := hJ.1
  have hI := hJ.2.1
  have hO := hJ.2.2.1
  have hC := hJ.2.2.2.1
  have hK := hJ.2.2.2.2
  refine e_aload_n dX9_copyRows_0 rfl rfl ?_
  refine m_arr 27 dX9_copyRows_1 flX9_80 rfl hM (by decide) ?_
  refine e_iload_n dX9_copyRows_4 rfl rfl ?_
  refine e_aload_n dX9_copyRows_5 rfl rfl ?_
  refine m_arr 26 dX9_copyRows_6 flX9_77 rfl hM (by decide) ?_
  refine e_iload_n dX9_copyRows_9 rfl rfl ?_
  refine m_ldz dX9_copyRows_10 hM (by decide) rfl (by omega) (by simp only [mL]; omega) (by (try simp (disch := omega) only [up_f, up_i, up_eq, tkO_16, tkO_f]); rfl) (fun r10 => ?_)
  refine e_if_eq (tgt := 27) dX9_copyRows_11 (by decide) (by omega) (fun c11 => ?_) (fun c11 => ?_)
  · skip
    try simp only [b2_0, b2_n0] at c11
    refine e_iconst dX9_copyRows_27 ?_
    refine m_stz dX9_copyRows_28 hM (by decide) rfl (by omega) (by simp only [mL]; omega) (by first | exact Or.inl rfl | exact Or.inr rfl | assumption) (fun hM => ?_)
    refine e_aload_n dX9_copyRows_29 rfl rfl ?_
    refine m_arr 27 dX9_copyRows_30 flX9_80 rfl hM (by decide) ?_
    refine e_iload_n dX9_copyRows_33 rfl rfl ?_
    refine m_ldz dX9_copyRows_34 hM (by decide) rfl (by omega) (by simp only [mL]; omega) (by (try simp (disch := omega) only [up_f, up_i, up_eq, tkO_16, tkO_f]); rfl) (fun r34 => ?_)
    refine e_if_eq (tgt := 58) dX9_copyRows_35 (by decide) (by omega) (fun c35 => ?_) (fun c35 => ?_)
    · skip
      refine e_aload_n dX9_copyRows_58 rfl rfl ?_
      refine m_arr 26 dX9_copyRows_59 flX9_77 rfl hM (by decide) ?_
      refine e_iload_n dX9_copyRows_62 rfl rfl ?_
      refine m_ldz dX9_copyRows_63 hM (by decide) rfl (by omega) (by simp only [mL]; omega) (by (try simp (disch := omega) only [up_f, up_i, up_eq, tkO_16, tkO_f]); rfl) (fun r63 => ?_)
      refine e_if_eq (tgt := 192) dX9_copyRows_64 (by decide) (by omega) (fun c64 => ?_) (fun c64 => ?_)
      · skip
        try simp only [b2_0, b2_n0] at c64
        refine e_vret dX9_copyRows_192 rfl (by decide) (by decide) ?_
        first
          | (exfalso; omega; done)
          | (rw [show k = 12 by omega] at hM; refine ⟨rfl, MM_eq hM (fun f _ _ j => ?_), (by first | exact ht | rfl)⟩; unfold rowsS; rw [if_neg (by omega), if_pos (by omega)]; done)
          | (refine ⟨rfl, MM_eq hM (fun f _ _ j => ?_), (by first | exact ht | rfl)⟩; unfold rowsS; rw [if_pos (by omega)]; done)
          | (refine ⟨rfl, MM_eq hM (fun f _ _ j => ?_), (by first | exact ht | rfl)⟩; unfold rowsS; rw [if_neg (by omega), if_neg (by omega)]; done)
      · skip
        try simp only [b2_0, b2_n0] at c64
        refine e_iconst dX9_copyRows_67 ?_
        refine e_istore_n dX9_copyRows_68 rfl (by decide) rfl rfl ?_
        refine e_iconst dX9_copyRows_69 ?_
        refine e_istore_n dX9_copyRows_70 rfl (by decide) rfl rfl ?_
        refine e_bipush dX9_copyRows_71 (by decide) ?_
        refine e_istore dX9_copyRows_73 (by decide) rfl rfl ?_
        have lp75 : ∀ (d : Nat) (r fo fr : Int), (r + 1).toNat < d → -1 ≤ r → r ≤ 7 → fo = fndN S s (7 - r).toNat → fr = frsN S s (7 - r).toNat → AW l MX9_copyRows (fun o h' => o = .inl none ∧ MM (rowsS S s) h h' ∧ zf h' 1000 99 = zf h 1000 99) 0 0 75 [zR (some 99), zI s, zI fo, zI fr, zI r] [] (sa h (100 + 27) s 0) := by
          intro d
          induction d with
          | zero => intro r fo fr hd r0 r1 hfo hfr; exact absurd hd (by omega)
          | succ d ih =>
            have ih75 := ih
            intro r fo fr hd r0 r1 hfo hfr
            have es : r < 0 ∨ (fndN S s (7 - (r + -1)).toNat = if isL S s r = 1 then r else fo) ∧ (frsN S s (7 - (r + -1)).toNat = if S 29 (8 * s + r) = 1 then fr else r) := by
              rcases Int.lt_or_le r 0 with z | z
              · exact Or.inl z
              · refine Or.inr ⟨?_, ?_⟩
                · rw [show (7 - (r + -1)).toNat = (7 - r).toNat + 1 by omega, fndN_s, ← hfo, show 7 - (((7 - r).toNat : Nat) : Int) = r by omega]
                · rw [show (7 - (r + -1)).toNat = (7 - r).toNat + 1 by omega, frsN_s, ← hfr, show 7 - (((7 - r).toNat : Nat) : Int) = r by omega]
            have hJ1 : JJ (up S 27 s 0) := JJ_ag (fun f hf j => up_f (by unfold jF at hf; omega)) hJ
            have ei : isL (up S 27 s 0) s r = isL S s r := isL_ag (fun f hf j => up_f (by omega)) _ _
            have il := isL_le (S := S) (s := s) (r := r)
            refine e_iload dX9_copyRows_75 rfl ?_
            refine e_if_lt (tgt := 125) dX9_copyRows_77 (by decide) (by omega) (fun c77 => ?_) (fun c77 => ?_)
            · skip
              have hfi := fndN_in (S := S) (s := s) 8 (Nat.le_refl _)
              have hri := frsN_in (S := S) (s := s) 8 (Nat.le_refl _)
              have hf8 : fo = fndN S s 8 := by rw [hfo, show r = -1 by omega]; rfl
              have hr8 : fr = frsN S s 8 := by rw [hfr, show r = -1 by omega]; rfl
              have hrn := rowN_in (S := S) (s := s) (by omega)
              have hrw : rowN S s = if 0 ≤ fr then fr else fo := by unfold rowN; rw [hf8, hr8]
              refine e_iload_n dX9_copyRows_125 rfl rfl ?_
              refine e_if_lt (tgt := 133) dX9_copyRows_126 (by decide) (by omega) (fun c126 => ?_) (fun c126 => ?_)
              · skip
                have hx9 : rowN S s = fo := by rw [hrw, if_neg (by omega)]
                rw [← hx9]
                refine e_iload_n dX9_copyRows_133 rfl rfl ?_
                refine e_istore_n dX9_copyRows_134 rfl (by decide) rfl rfl ?_
                refine e_aload_n dX9_copyRows_135 rfl rfl ?_
                refine m_arr 29 dX9_copyRows_136 flX9_86 rfl hM (by decide) ?_
                refine e_bipush dX9_copyRows_139 (by decide) ?_
                refine e_iload_n dX9_copyRows_141 rfl rfl ?_
                refine e_imul dX9_copyRows_142 ?_
                refine e_iload_n dX9_copyRows_143 rfl rfl ?_
                refine e_iadd dX9_copyRows_144 ?_
                refine e_iconst dX9_copyRows_145 ?_
                refine m_stz dX9_copyRows_146 hM (by decide) rfl (by omega) (by simp only [mL]; omega) (by first | exact Or.inl rfl | exact Or.inr rfl | assumption) (fun hM => ?_)
                refine e_iconst dX9_copyRows_147 ?_
                refine e_istore dX9_copyRows_148 (by decide) rfl rfl ?_
                have lp150 : ∀ (d : Nat) (k : Int) (h2 : zH), (12 - k).toNat < d → 0 ≤ k → k ≤ 12 → MM (cpyI (up (up S 27 s 0) 29 (8 * s + rowN S s) 1) s (rowN S s) k) h h2 → zf h2 1000 99 = zf h 1000 99 → AW l MX9_copyRows (fun o h' => o = .inl none ∧ MM (rowsS S s) h h' ∧ zf h' 1000 99 = zf h 1000 99) 0 0 150 [zR (some 99), zI s, zI (rowN S s), zX, zI k] [] h2 := by
                  intro d
                  induction d with
                  | zero => intro k h2 hd k0 k1 hM ht; exact absurd hd (by omega)
                  | succ d ih =>
                    have ih150 := ih
                    intro k h2 hd k0 k1 hM ht
                    have hJ1 : JJ (cpyI (up (up S 27 s 0) 29 (8 * s + rowN S s) 1) s (rowN S s) k) := JJ_ag (fun f hf j => by unfold cpyI; unfold jF at hf; rw [if_neg (by omega), up_f (by omega), up_f (by omega)]) hJ
                    have ea : agW S (cpyI (up (up S 27 s 0) 29 (8 * s + rowN S s) 1) s (rowN S s) k) := fun f h1 h2 j => by unfold cpyI; rw [if_neg (by omega), up_f (by omega), up_f (by omega)]
                    have eb : agW S (up (up S 27 s 0) 29 (8 * s + rowN S s) 1) := fun f h1 h2 j => by rw [up_f (by omega), up_f (by omega)]
                    refine e_iload dX9_copyRows_150 rfl ?_
                    refine e_bipush dX9_copyRows_152 (by decide) ?_
                    refine e_icmp_ge (tgt := 192) dX9_copyRows_154 (by decide) (by omega) (by omega) (fun c154 => ?_) (fun c154 => ?_)
                    · skip
                      refine e_vret dX9_copyRows_192 rfl (by decide) (by decide) ?_
                      first
                        | (exfalso; omega; done)
                        | (rw [show k = 12 by omega] at hM; refine ⟨rfl, MM_eq hM (fun f _ _ j => ?_), (by first | exact ht | rfl)⟩; unfold rowsS; rw [if_neg (by omega), if_pos (by omega)]; done)
                        | (refine ⟨rfl, MM_eq hM (fun f _ _ j => ?_), (by first | exact ht | rfl)⟩; unfold rowsS; rw [if_pos (by omega)]; done)
                        | (refine ⟨rfl, MM_eq hM (fun f _ _ j => ?_), (by first | exact ht | rfl)⟩; unfold rowsS; rw [if_neg (by omega), if_neg (by omega)]; done)
                    · skip
                      refine e_aload_n dX9_copyRows_157 rfl rfl ?_
                      refine m_arr 30 dX9_copyRows_158 flX9_89 rfl hM (by decide) ?_
                      refine e_bipush dX9_copyRows_161 (by decide) ?_
                      refine e_iload_n dX9_copyRows_163 rfl rfl ?_
                      refine e_imul dX9_copyRows_164 ?_
                      refine e_iload_n dX9_copyRows_165 rfl rfl ?_
                      refine e_bipush dX9_copyRows_166 (by decide) ?_
                      refine e_imul dX9_copyRows_168 ?_
                      refine e_iadd dX9_copyRows_169 ?_
                      refine e_iload dX9_copyRows_170 rfl ?_
                      refine e_iadd dX9_copyRows_172 ?_
                      refine e_aload_n dX9_copyRows_173 rfl rfl ?_
                      refine e_iload_n dX9_copyRows_174 rfl rfl ?_
                      refine e_iload_n dX9_copyRows_175 rfl rfl ?_
                      refine e_bipush dX9_copyRows_176 (by decide) ?_
                      refine e_imul dX9_copyRows_178 ?_
                      refine e_iload dX9_copyRows_179 rfl ?_
                      refine e_iadd dX9_copyRows_181 ?_
                      refine e_callV (As := [zI _, zI _]) (cb := 10) dX9_copyRows_182 moX9_screenAt mvX9_screenAt mlX9_164 (by decide) rfl hM.1.1 rfl (Nat.le_of_ble_eq_true rfl) ⟨by decide, by decide, by decide, by decide⟩ (c_X9_screenAt hl hM.1 hJ1.1 hJ1.2.1 hJ1.2.2.1 _ _ hs0 hs1 (by omega) (by omega)) (fun E h1 q => by cases q.1) (fun v h9 q => ?_)
                      obtain ⟨e1, e2⟩ := q; cases e1; rw [e2]; clear e2 h9
                      rw [screenAt_ag ea]
                      refine e_G (fun G => ?_)
                      have rs : zin (screenAt S s (rowN S s * 12 + k)) := by
                        rw [← screenAt_ag ea]
                        exact screen_in hM.1 G
                      refine m_st dX9_copyRows_185 hM (by decide) rfl (by omega) (by simp only [mL]; omega) (by omega) (fun hM => ?_)
                      refine e_iinc dX9_copyRows_186 (by decide) rfl rfl rfl rfl ?_
                      refine e_goto (tgt := 150) dX9_copyRows_189 (by decide) ?_
                      exact ih150 _ _ (by omega) (by omega) (by omega) (MM_eq hM (fun f _ _ j => cpyI_s k0 (screenAt_ag eb _ _).symm)) ht
                refine e_mask [true, true, true, false, true] ?_
                exact lp150 13 0 _ (by omega) (by omega) (by omega) (MM_eq hM (fun f _ _ j => if_neg (by omega))) rfl
              · skip
                have hx9 : rowN S s = fr := by rw [hrw, if_pos (by omega)]
                rw [← hx9]
                refine e_iload_n dX9_copyRows_129 rfl rfl ?_
                refine e_goto (tgt := 134) dX9_copyRows_130 (by decide) ?_
                refine e_istore_n dX9_copyRows_134 rfl (by decide) rfl rfl ?_
                refine e_aload_n dX9_copyRows_135 rfl rfl ?_
                refine m_arr 29 dX9_copyRows_136 flX9_86 rfl hM (by decide) ?_
                refine e_bipush dX9_copyRows_139 (by decide) ?_
                refine e_iload_n dX9_copyRows_141 rfl rfl ?_
                refine e_imul dX9_copyRows_142 ?_
                refine e_iload_n dX9_copyRows_143 rfl rfl ?_
                refine e_iadd dX9_copyRows_144 ?_
                refine e_iconst dX9_copyRows_145 ?_
                refine m_stz dX9_copyRows_146 hM (by decide) rfl (by omega) (by simp only [mL]; omega) (by first | exact Or.inl rfl | exact Or.inr rfl | assumption) (fun hM => ?_)
                refine e_iconst dX9_copyRows_147 ?_
                refine e_istore dX9_copyRows_148 (by decide) rfl rfl ?_
                have lp150 : ∀ (d : Nat) (k : Int) (h2 : zH), (12 - k).toNat < d → 0 ≤ k → k ≤ 12 → MM (cpyI (up (up S 27 s 0) 29 (8 * s + rowN S s) 1) s (rowN S s) k) h h2 → zf h2 1000 99 = zf h 1000 99 → AW l MX9_copyRows (fun o h' => o = .inl none ∧ MM (rowsS S s) h h' ∧ zf h' 1000 99 = zf h 1000 99) 0 0 150 [zR (some 99), zI s, zI (rowN S s), zX, zI k] [] h2 := by
                  intro d
                  induction d with
                  | zero => intro k h2 hd k0 k1 hM ht; exact absurd hd (by omega)
                  | succ d ih =>
                    have ih150 := ih
                    intro k h2 hd k0 k1 hM ht
                    have hJ1 : JJ (cpyI (up (up S 27 s 0) 29 (8 * s + rowN S s) 1) s (rowN S s) k) := JJ_ag (fun f hf j => by unfold cpyI; unfold jF at hf; rw [if_neg (by omega), up_f (by omega), up_f (by omega)]) hJ
                    have ea : agW S (cpyI (up (up S 27 s 0) 29 (8 * s + rowN S s) 1) s (rowN S s) k) := fun f h1 h2 j => by unfold cpyI; rw [if_neg (by omega), up_f (by omega), up_f (by omega)]
                    have eb : agW S (up (up S 27 s 0) 29 (8 * s + rowN S s) 1) := fun f h1 h2 j => by rw [up_f (by omega), up_f (by omega)]
                    refine e_iload dX9_copyRows_150 rfl ?_
                    refine e_bipush dX9_copyRows_152 (by decide) ?_
                    refine e_icmp_ge (tgt := 192) dX9_copyRows_154 (by decide) (by omega) (by omega) (fun c154 => ?_) (fun c154 => ?_)
                    · skip
                      refine e_vret dX9_copyRows_192 rfl (by decide) (by decide) ?_
                      first
                        | (exfalso; omega; done)
                        | (rw [show k = 12 by omega] at hM; refine ⟨rfl, MM_eq hM (fun f _ _ j => ?_), (by first | exact ht | rfl)⟩; unfold rowsS; rw [if_neg (by omega), if_pos (by omega)]; done)
                        | (refine ⟨rfl, MM_eq hM (fun f _ _ j => ?_), (by first | exact ht | rfl)⟩; unfold rowsS; rw [if_pos (by omega)]; done)
                        | (refine ⟨rfl, MM_eq hM (fun f _ _ j => ?_), (by first | exact ht | rfl)⟩; unfold rowsS; rw [if_neg (by omega), if_neg (by omega)]; done)
                    · skip
                      refine e_aload_n dX9_copyRows_157 rfl rfl ?_
                      refine m_arr 30 dX9_copyRows_158 flX9_89 rfl hM (by decide) ?_
                      refine e_bipush dX9_copyRows_161 (by decide) ?_
                      refine e_iload_n dX9_copyRows_163 rfl rfl ?_
                      refine e_imul dX9_copyRows_164 ?_
                      refine e_iload_n dX9_copyRows_165 rfl rfl ?_
                      refine e_bipush dX9_copyRows_166 (by decide) ?_
                      refine e_imul dX9_copyRows_168 ?_
                      refine e_iadd dX9_copyRows_169 ?_
                      refine e_iload dX9_copyRows_170 rfl ?_
                      refine e_iadd dX9_copyRows_172 ?_
                      refine e_aload_n dX9_copyRows_173 rfl rfl ?_
                      refine e_iload_n dX9_copyRows_174 rfl rfl ?_
                      refine e_iload_n dX9_copyRows_175 rfl rfl ?_
                      refine e_bipush dX9_copyRows_176 (by decide) ?_
                      refine e_imul dX9_copyRows_178 ?_
                      refine e_iload dX9_copyRows_179 rfl ?_
                      refine e_iadd dX9_copyRows_181 ?_
                      refine e_callV (As := [zI _, zI _]) (cb := 10) dX9_copyRows_182 moX9_screenAt mvX9_screenAt mlX9_164 (by decide) rfl hM.1.1 rfl (Nat.le_of_ble_eq_true rfl) ⟨by decide, by decide, by decide, by decide⟩ (c_X9_screenAt hl hM.1 hJ1.1 hJ1.2.1 hJ1.2.2.1 _ _ hs0 hs1 (by omega) (by omega)) (fun E h1 q => by cases q.1) (fun v h9 q => ?_)
                      obtain ⟨e1, e2⟩ := q; cases e1; rw [e2]; clear e2 h9
                      rw [screenAt_ag ea]
                      refine e_G (fun G => ?_)
                      have rs : zin (screenAt S s (rowN S s * 12 + k)) := by
                        rw [← screenAt_ag ea]
                        exact screen_in hM.1 G
                      refine m_st dX9_copyRows_185 hM (by decide) rfl (by omega) (by simp only [mL]; omega) (by omega) (fun hM => ?_)
                      refine e_iinc dX9_copyRows_186 (by decide) rfl rfl rfl rfl ?_
                      refine e_goto (tgt := 150) dX9_copyRows_189 (by decide) ?_
                      exact ih150 _ _ (by omega) (by omega) (by omega) (MM_eq hM (fun f _ _ j => cpyI_s k0 (screenAt_ag eb _ _).symm)) ht
                refine e_mask [true, true, true, false, true] ?_
                exact lp150 13 0 _ (by omega) (by omega) (by omega) (MM_eq hM (fun f _ _ j => if_neg (by omega))) rfl
            · skip
              refine e_aload_n dX9_copyRows_80 rfl rfl ?_
              refine e_iload_n dX9_copyRows_81 rfl rfl ?_
              refine e_iload dX9_copyRows_82 rfl ?_
              refine e_callV (As := [zI _, zI _]) (cb := 10) dX9_copyRows_84 moX9_isLeft mvX9_isLeft mlX9_261 (by decide) rfl hM.1.1 rfl (Nat.le_of_ble_eq_true rfl) ⟨by decide, by decide, by decide, by decide⟩ (c_X9_isLeft hl hM.1 hJ1 _ _ hs0 hs1 (by omega) (by omega)) (fun E h1 q => by cases q.1) (fun v h9 q => ?_)
              obtain ⟨e1, e2⟩ := q; cases e1; rw [e2]; clear e2 h9
              rw [ei]
              refine e_if_eq (tgt := 95) dX9_copyRows_87 (by decide) (by omega) (fun c87 => ?_) (fun c87 => ?_)
              · skip
                try simp only [b2_0, b2_n0] at c87
                refine e_iload_n dX9_copyRows_95 rfl rfl ?_
                refine e_istore_n dX9_copyRows_96 rfl (by decide) rfl rfl ?_
                refine e_aload_n dX9_copyRows_97 rfl rfl ?_
                refine m_arr 29 dX9_copyRows_98 flX9_86 rfl hM (by decide) ?_
                refine e_bipush dX9_copyRows_101 (by decide) ?_
                refine e_iload_n dX9_copyRows_103 rfl rfl ?_
                refine e_imul dX9_copyRows_104 ?_
                refine e_iload dX9_copyRows_105 rfl ?_
                refine e_iadd dX9_copyRows_107 ?_
                refine m_ldz dX9_copyRows_108 hM (by decide) rfl (by omega) (by simp only [mL]; omega) (by (try simp (disch := omega) only [up_f, up_i, up_eq, tkO_16, tkO_f]); rfl) (fun r108 => ?_)
                refine e_if_eq (tgt := 116) dX9_copyRows_109 (by decide) (by omega) (fun c109 => ?_) (fun c109 => ?_)
                · skip
                  try simp only [b2_0, b2_n0] at c109
                  refine e_iload dX9_copyRows_116 rfl ?_
                  refine e_istore_n dX9_copyRows_118 rfl (by decide) rfl rfl ?_
                  refine e_iinc dX9_copyRows_119 (by decide) rfl rfl rfl rfl ?_
                  refine e_goto (tgt := 75) dX9_copyRows_122 (by decide) ?_
                  rcases es with z | ⟨es1, es2⟩
                  · exfalso
                    omega
                  · exact ih75 _ _ _ (by omega) (by omega) (by omega) (by rw [es1]; first | (rw [if_pos (by omega)]; done) | (rw [if_neg (by omega)]; done)) (by rw [es2]; first | (rw [if_pos (by omega)]; done) | (rw [if_neg (by omega)]; done))
                · skip
                  try simp only [b2_0, b2_n0] at c109
                  refine e_iload_n dX9_copyRows_112 rfl rfl ?_
                  refine e_goto (tgt := 118) dX9_copyRows_113 (by decide) ?_
                  refine e_istore_n dX9_copyRows_118 rfl (by decide) rfl rfl ?_
                  refine e_iinc dX9_copyRows_119 (by decide) rfl rfl rfl rfl ?_
                  refine e_goto (tgt := 75) dX9_copyRows_122 (by decide) ?_
                  rcases es with z | ⟨es1, es2⟩
                  · exfalso
                    omega
                  · exact ih75 _ _ _ (by omega) (by omega) (by omega) (by rw [es1]; first | (rw [if_pos (by omega)]; done) | (rw [if_neg (by omega)]; done)) (by rw [es2]; first | (rw [if_pos (by omega)]; done) | (rw [if_neg (by omega)]; done))
              · skip
                try simp only [b2_0, b2_n0] at c87
                refine e_iload dX9_copyRows_90 rfl ?_
                refine e_goto (tgt := 96) dX9_copyRows_92 (by decide) ?_
                refine e_istore_n dX9_copyRows_96 rfl (by decide) rfl rfl ?_
                refine e_aload_n dX9_copyRows_97 rfl rfl ?_
                refine m_arr 29 dX9_copyRows_98 flX9_86 rfl hM (by decide) ?_
                refine e_bipush dX9_copyRows_101 (by decide) ?_
                refine e_iload_n dX9_copyRows_103 rfl rfl ?_
                refine e_imul dX9_copyRows_104 ?_
                refine e_iload dX9_copyRows_105 rfl ?_
                refine e_iadd dX9_copyRows_107 ?_
                refine m_ldz dX9_copyRows_108 hM (by decide) rfl (by omega) (by simp only [mL]; omega) (by (try simp (disch := omega) only [up_f, up_i, up_eq, tkO_16, tkO_f]); rfl) (fun r108 => ?_)
                refine e_if_eq (tgt := 116) dX9_copyRows_109 (by decide) (by omega) (fun c109 => ?_) (fun c109 => ?_)
                · skip
                  try simp only [b2_0, b2_n0] at c109
                  refine e_iload dX9_copyRows_116 rfl ?_
                  refine e_istore_n dX9_copyRows_118 rfl (by decide) rfl rfl ?_
                  refine e_iinc dX9_copyRows_119 (by decide) rfl rfl rfl rfl ?_
                  refine e_goto (tgt := 75) dX9_copyRows_122 (by decide) ?_
                  rcases es with z | ⟨es1, es2⟩
                  · exfalso
                    omega
                  · exact ih75 _ _ _ (by omega) (by omega) (by omega) (by rw [es1]; first | (rw [if_pos (by omega)]; done) | (rw [if_neg (by omega)]; done)) (by rw [es2]; first | (rw [if_pos (by omega)]; done) | (rw [if_neg (by omega)]; done))
                · skip
                  try simp only [b2_0, b2_n0] at c109
                  refine e_iload_n dX9_copyRows_112 rfl rfl ?_
                  refine e_goto (tgt := 118) dX9_copyRows_113 (by decide) ?_
                  refine e_istore_n dX9_copyRows_118 rfl (by decide) rfl rfl ?_
                  refine e_iinc dX9_copyRows_119 (by decide) rfl rfl rfl rfl ?_
                  refine e_goto (tgt := 75) dX9_copyRows_122 (by decide) ?_
                  rcases es with z | ⟨es1, es2⟩
                  · exfalso
                    omega
                  · exact ih75 _ _ _ (by omega) (by omega) (by omega) (by rw [es1]; first | (rw [if_pos (by omega)]; done) | (rw [if_neg (by omega)]; done)) (by rw [es2]; first | (rw [if_pos (by omega)]; done) | (rw [if_neg (by omega)]; done))
        exact lp75 9 7 (-1) (-1) (by omega) (by omega) (by omega) rfl rfl
    · skip
      exfalso; omega
  · skip
    try simp only [b2_0, b2_n0] at c11
    refine e_aload_n dX9_copyRows_14 rfl rfl ?_
    refine e_iload_n dX9_copyRows_15 rfl rfl ?_
    refine e_callV (As := [zI _]) (cb := 10) dX9_copyRows_16 moX9_countLeft mvX9_countLeft mlX9_264 (by decide) rfl hM.1.1 rfl (Nat.le_of_ble_eq_true rfl) ⟨by decide, by decide, by decide, by decide⟩ (c_X9_countLeft hl hM.1 hJ _ hs0 hs1) (fun E h1 q => by cases q.1) (fun v h9 q => ?_)
    obtain ⟨e1, e2⟩ := q; cases e1; rw [e2]; clear e2 h9
    refine e_iconst dX9_copyRows_19 ?_
    refine e_icmp_gt (tgt := 27) dX9_copyRows_20 (by decide) (by have := sg_in1 (f := fun r => isL S s r) (fun _ _ => isL_le) 8 (by decide); unfold cntL; omega) (by omega) (fun c20 => ?_) (fun c20 => ?_)
    · skip
      refine e_iconst dX9_copyRows_27 ?_
      refine m_stz dX9_copyRows_28 hM (by decide) rfl (by omega) (by simp only [mL]; omega) (by first | exact Or.inl rfl | exact Or.inr rfl | assumption) (fun hM => ?_)
      refine e_aload_n dX9_copyRows_29 rfl rfl ?_
      refine m_arr 27 dX9_copyRows_30 flX9_80 rfl hM (by decide) ?_
      refine e_iload_n dX9_copyRows_33 rfl rfl ?_
      refine m_ldz dX9_copyRows_34 hM (by decide) rfl (by omega) (by simp only [mL]; omega) (by (try simp (disch := omega) only [up_f, up_i, up_eq, tkO_16, tkO_f]); rfl) (fun r34 => ?_)
      refine e_if_eq (tgt := 58) dX9_copyRows_35 (by decide) (by omega) (fun c35 => ?_) (fun c35 => ?_)
      · skip
        refine e_aload_n dX9_copyRows_58 rfl rfl ?_
        refine m_arr 26 dX9_copyRows_59 flX9_77 rfl hM (by decide) ?_
        refine e_iload_n dX9_copyRows_62 rfl rfl ?_
        refine m_ldz dX9_copyRows_63 hM (by decide) rfl (by omega) (by simp only [mL]; omega) (by (try simp (disch := omega) only [up_f, up_i, up_eq, tkO_16, tkO_f]); rfl) (fun r63 => ?_)
        refine e_if_eq (tgt := 192) dX9_copyRows_64 (by decide) (by omega) (fun c64 => ?_) (fun c64 => ?_)
        · skip
          try simp only [b2_0, b2_n0] at c64
          refine e_vret dX9_copyRows_192 rfl (by decide) (by decide) ?_
          first
            | (exfalso; omega; done)
            | (rw [show k = 12 by omega] at hM; refine ⟨rfl, MM_eq hM (fun f _ _ j => ?_), (by first | exact ht | rfl)⟩; unfold rowsS; rw [if_neg (by omega), if_pos (by omega)]; done)
            | (refine ⟨rfl, MM_eq hM (fun f _ _ j => ?_), (by first | exact ht | rfl)⟩; unfold rowsS; rw [if_pos (by omega)]; done)
            | (refine ⟨rfl, MM_eq hM (fun f _ _ j => ?_), (by first | exact ht | rfl)⟩; unfold rowsS; rw [if_neg (by omega), if_neg (by omega)]; done)
        · skip
          try simp only [b2_0, b2_n0] at c64
          refine e_iconst dX9_copyRows_67 ?_
          refine e_istore_n dX9_copyRows_68 rfl (by decide) rfl rfl ?_
          refine e_iconst dX9_copyRows_69 ?_
          refine e_istore_n dX9_copyRows_70 rfl (by decide) rfl rfl ?_
          refine e_bipush dX9_copyRows_71 (by decide) ?_
          refine e_istore dX9_copyRows_73 (by decide) rfl rfl ?_
          have lp75 : ∀ (d : Nat) (r fo fr : Int), (r + 1).toNat < d → -1 ≤ r → r ≤ 7 → fo = fndN S s (7 - r).toNat → fr = frsN S s (7 - r).toNat → AW l MX9_copyRows (fun o h' => o = .inl none ∧ MM (rowsS S s) h h' ∧ zf h' 1000 99 = zf h 1000 99) 0 0 75 [zR (some 99), zI s, zI fo, zI fr, zI r] [] (sa h (100 + 27) s 0) := by
            intro d
            induction d with
            | zero => intro r fo fr hd r0 r1 hfo hfr; exact absurd hd (by omega)
            | succ d ih =>
              have ih75 := ih
              intro r fo fr hd r0 r1 hfo hfr
              have es : r < 0 ∨ (fndN S s (7 - (r + -1)).toNat = if isL S s r = 1 then r else fo) ∧ (frsN S s (7 - (r + -1)).toNat = if S 29 (8 * s + r) = 1 then fr else r) := by
                rcases Int.lt_or_le r 0 with z | z
                · exact Or.inl z
                · refine Or.inr ⟨?_, ?_⟩
                  · rw [show (7 - (r + -1)).toNat = (7 - r).toNat + 1 by omega, fndN_s, ← hfo, show 7 - (((7 - r).toNat : Nat) : Int) = r by omega]
                  · rw [show (7 - (r + -1)).toNat = (7 - r).toNat + 1 by omega, frsN_s, ← hfr, show 7 - (((7 - r).toNat : Nat) : Int) = r by omega]
              have hJ1 : JJ (up S 27 s 0) := JJ_ag (fun f hf j => up_f (by unfold jF at hf; omega)) hJ
              have ei : isL (up S 27 s 0) s r = isL S s r := isL_ag (fun f hf j => up_f (by omega)) _ _
              have il := isL_le (S := S) (s := s) (r := r)
              refine e_iload dX9_copyRows_75 rfl ?_
              refine e_if_lt (tgt := 125) dX9_copyRows_77 (by decide) (by omega) (fun c77 => ?_) (fun c77 => ?_)
              · skip
                have hfi := fndN_in (S := S) (s := s) 8 (Nat.le_refl _)
                have hri := frsN_in (S := S) (s := s) 8 (Nat.le_refl _)
                have hf8 : fo = fndN S s 8 := by rw [hfo, show r = -1 by omega]; rfl
                have hr8 : fr = frsN S s 8 := by rw [hfr, show r = -1 by omega]; rfl
                have hrn := rowN_in (S := S) (s := s) (by omega)
                have hrw : rowN S s = if 0 ≤ fr then fr else fo := by unfold rowN; rw [hf8, hr8]
                refine e_iload_n dX9_copyRows_125 rfl rfl ?_
                refine e_if_lt (tgt := 133) dX9_copyRows_126 (by decide) (by omega) (fun c126 => ?_) (fun c126 => ?_)
                · skip
                  have hx9 : rowN S s = fo := by rw [hrw, if_neg (by omega)]
                  rw [← hx9]
                  refine e_iload_n dX9_copyRows_133 rfl rfl ?_
                  refine e_istore_n dX9_copyRows_134 rfl (by decide) rfl rfl ?_
                  refine e_aload_n dX9_copyRows_135 rfl rfl ?_
                  refine m_arr 29 dX9_copyRows_136 flX9_86 rfl hM (by decide) ?_
                  refine e_bipush dX9_copyRows_139 (by decide) ?_
                  refine e_iload_n dX9_copyRows_141 rfl rfl ?_
                  refine e_imul dX9_copyRows_142 ?_
                  refine e_iload_n dX9_copyRows_143 rfl rfl ?_
                  refine e_iadd dX9_copyRows_144 ?_
                  refine e_iconst dX9_copyRows_145 ?_
                  refine m_stz dX9_copyRows_146 hM (by decide) rfl (by omega) (by simp only [mL]; omega) (by first | exact Or.inl rfl | exact Or.inr rfl | assumption) (fun hM => ?_)
                  refine e_iconst dX9_copyRows_147 ?_
                  refine e_istore dX9_copyRows_148 (by decide) rfl rfl ?_
                  have lp150 : ∀ (d : Nat) (k : Int) (h2 : zH), (12 - k).toNat < d → 0 ≤ k → k ≤ 12 → MM (cpyI (up (up S 27 s 0) 29 (8 * s + rowN S s) 1) s (rowN S s) k) h h2 → zf h2 1000 99 = zf h 1000 99 → AW l MX9_copyRows (fun o h' => o = .inl none ∧ MM (rowsS S s) h h' ∧ zf h' 1000 99 = zf h 1000 99) 0 0 150 [zR (some 99), zI s, zI (rowN S s), zX, zI k] [] h2 := by
                    intro d
                    induction d with
                    | zero => intro k h2 hd k0 k1 hM ht; exact absurd hd (by omega)
                    | succ d ih =>
                      have ih150 := ih
                      intro k h2 hd k0 k1 hM ht
                      have hJ1 : JJ (cpyI (up (up S 27 s 0) 29 (8 * s + rowN S s) 1) s (rowN S s) k) := JJ_ag (fun f hf j => by unfold cpyI; unfold jF at hf; rw [if_neg (by omega), up_f (by omega), up_f (by omega)]) hJ
                      have ea : agW S (cpyI (up (up S 27 s 0) 29 (8 * s + rowN S s) 1) s (rowN S s) k) := fun f h1 h2 j => by unfold cpyI; rw [if_neg (by omega), up_f (by omega), up_f (by omega)]
                      have eb : agW S (up (up S 27 s 0) 29 (8 * s + rowN S s) 1) := fun f h1 h2 j => by rw [up_f (by omega), up_f (by omega)]
                      refine e_iload dX9_copyRows_150 rfl ?_
                      refine e_bipush dX9_copyRows_152 (by decide) ?_
                      refine e_icmp_ge (tgt := 192) dX9_copyRows_154 (by decide) (by omega) (by omega) (fun c154 => ?_) (fun c154 => ?_)
                      · skip
                        refine e_vret dX9_copyRows_192 rfl (by decide) (by decide) ?_
                        first
                          | (exfalso; omega; done)
                          | (rw [show k = 12 by omega] at hM; refine ⟨rfl, MM_eq hM (fun f _ _ j => ?_), (by first | exact ht | rfl)⟩; unfold rowsS; rw [if_neg (by omega), if_pos (by omega)]; done)
                          | (refine ⟨rfl, MM_eq hM (fun f _ _ j => ?_), (by first | exact ht | rfl)⟩; unfold rowsS; rw [if_pos (by omega)]; done)
                          | (refine ⟨rfl, MM_eq hM (fun f _ _ j => ?_), (by first | exact ht | rfl)⟩; unfold rowsS; rw [if_neg (by omega), if_neg (by omega)]; done)
                      · skip
                        refine e_aload_n dX9_copyRows_157 rfl rfl ?_
                        refine m_arr 30 dX9_copyRows_158 flX9_89 rfl hM (by decide) ?_
                        refine e_bipush dX9_copyRows_161 (by decide) ?_
                        refine e_iload_n dX9_copyRows_163 rfl rfl ?_
                        refine e_imul dX9_copyRows_164 ?_
                        refine e_iload_n dX9_copyRows_165 rfl rfl ?_
                        refine e_bipush dX9_copyRows_166 (by decide) ?_
                        refine e_imul dX9_copyRows_168 ?_
                        refine e_iadd dX9_copyRows_169 ?_
                        refine e_iload dX9_copyRows_170 rfl ?_
                        refine e_iadd dX9_copyRows_172 ?_
                        refine e_aload_n dX9_copyRows_173 rfl rfl ?_
                        refine e_iload_n dX9_copyRows_174 rfl rfl ?_
                        refine e_iload_n dX9_copyRows_175 rfl rfl ?_
                        refine e_bipush dX9_copyRows_176 (by decide) ?_
                        refine e_imul dX9_copyRows_178 ?_
                        refine e_iload dX9_copyRows_179 rfl ?_
                        refine e_iadd dX9_copyRows_181 ?_
                        refine e_callV (As := [zI _, zI _]) (cb := 10) dX9_copyRows_182 moX9_screenAt mvX9_screenAt mlX9_164 (by decide) rfl hM.1.1 rfl (Nat.le_of_ble_eq_true rfl) ⟨by decide, by decide, by decide, by decide⟩ (c_X9_screenAt hl hM.1 hJ1.1 hJ1.2.1 hJ1.2.2.1 _ _ hs0 hs1 (by omega) (by omega)) (fun E h1 q => by cases q.1) (fun v h9 q => ?_)
                        obtain ⟨e1, e2⟩ := q; cases e1; rw [e2]; clear e2 h9
                        rw [screenAt_ag ea]
                        refine e_G (fun G => ?_)
                        have rs : zin (screenAt S s (rowN S s * 12 + k)) := by
                          rw [← screenAt_ag ea]
                          exact screen_in hM.1 G
                        refine m_st dX9_copyRows_185 hM (by decide) rfl (by omega) (by simp only [mL]; omega) (by omega) (fun hM => ?_)
                        refine e_iinc dX9_copyRows_186 (by decide) rfl rfl rfl rfl ?_
                        refine e_goto (tgt := 150) dX9_copyRows_189 (by decide) ?_
                        exact ih150 _ _ (by omega) (by omega) (by omega) (MM_eq hM (fun f _ _ j => cpyI_s k0 (screenAt_ag eb _ _).symm)) ht
                  refine e_mask [true, true, true, false, true] ?_
                  exact lp150 13 0 _ (by omega) (by omega) (by omega) (MM_eq hM (fun f _ _ j => if_neg (by omega))) rfl
                · skip
                  have hx9 : rowN S s = fr := by rw [hrw, if_pos (by omega)]
                  rw [← hx9]
                  refine e_iload_n dX9_copyRows_129 rfl rfl ?_
                  refine e_goto (tgt := 134) dX9_copyRows_130 (by decide) ?_
                  refine e_istore_n dX9_copyRows_134 rfl (by decide) rfl rfl ?_
                  refine e_aload_n dX9_copyRows_135 rfl rfl ?_
                  refine m_arr 29 dX9_copyRows_136 flX9_86 rfl hM (by decide) ?_
                  refine e_bipush dX9_copyRows_139 (by decide) ?_
                  refine e_iload_n dX9_copyRows_141 rfl rfl ?_
                  refine e_imul dX9_copyRows_142 ?_
                  refine e_iload_n dX9_copyRows_143 rfl rfl ?_
                  refine e_iadd dX9_copyRows_144 ?_
                  refine e_iconst dX9_copyRows_145 ?_
                  refine m_stz dX9_copyRows_146 hM (by decide) rfl (by omega) (by simp only [mL]; omega) (by first | exact Or.inl rfl | exact Or.inr rfl | assumption) (fun hM => ?_)
                  refine e_iconst dX9_copyRows_147 ?_
                  refine e_istore dX9_copyRows_148 (by decide) rfl rfl ?_
                  have lp150 : ∀ (d : Nat) (k : Int) (h2 : zH), (12 - k).toNat < d → 0 ≤ k → k ≤ 12 → MM (cpyI (up (up S 27 s 0) 29 (8 * s + rowN S s) 1) s (rowN S s) k) h h2 → zf h2 1000 99 = zf h 1000 99 → AW l MX9_copyRows (fun o h' => o = .inl none ∧ MM (rowsS S s) h h' ∧ zf h' 1000 99 = zf h 1000 99) 0 0 150 [zR (some 99), zI s, zI (rowN S s), zX, zI k] [] h2 := by
                    intro d
                    induction d with
                    | zero => intro k h2 hd k0 k1 hM ht; exact absurd hd (by omega)
                    | succ d ih =>
                      have ih150 := ih
                      intro k h2 hd k0 k1 hM ht
                      have hJ1 : JJ (cpyI (up (up S 27 s 0) 29 (8 * s + rowN S s) 1) s (rowN S s) k) := JJ_ag (fun f hf j => by unfold cpyI; unfold jF at hf; rw [if_neg (by omega), up_f (by omega), up_f (by omega)]) hJ
                      have ea : agW S (cpyI (up (up S 27 s 0) 29 (8 * s + rowN S s) 1) s (rowN S s) k) := fun f h1 h2 j => by unfold cpyI; rw [if_neg (by omega), up_f (by omega), up_f (by omega)]
                      have eb : agW S (up (up S 27 s 0) 29 (8 * s + rowN S s) 1) := fun f h1 h2 j => by rw [up_f (by omega), up_f (by omega)]
                      refine e_iload dX9_copyRows_150 rfl ?_
                      refine e_bipush dX9_copyRows_152 (by decide) ?_
                      refine e_icmp_ge (tgt := 192) dX9_copyRows_154 (by decide) (by omega) (by omega) (fun c154 => ?_) (fun c154 => ?_)
                      · skip
                        refine e_vret dX9_copyRows_192 rfl (by decide) (by decide) ?_
                        first
                          | (exfalso; omega; done)
                          | (rw [show k = 12 by omega] at hM; refine ⟨rfl, MM_eq hM (fun f _ _ j => ?_), (by first | exact ht | rfl)⟩; unfold rowsS; rw [if_neg (by omega), if_pos (by omega)]; done)
                          | (refine ⟨rfl, MM_eq hM (fun f _ _ j => ?_), (by first | exact ht | rfl)⟩; unfold rowsS; rw [if_pos (by omega)]; done)
                          | (refine ⟨rfl, MM_eq hM (fun f _ _ j => ?_), (by first | exact ht | rfl)⟩; unfold rowsS; rw [if_neg (by omega), if_neg (by omega)]; done)
                      · skip
                        refine e_aload_n dX9_copyRows_157 rfl rfl ?_
                        refine m_arr 30 dX9_copyRows_158 flX9_89 rfl hM (by decide) ?_
                        refine e_bipush dX9_copyRows_161 (by decide) ?_
                        refine e_iload_n dX9_copyRows_163 rfl rfl ?_
                        refine e_imul dX9_copyRows_164 ?_
                        refine e_iload_n dX9_copyRows_165 rfl rfl ?_
                        refine e_bipush dX9_copyRows_166 (by decide) ?_
                        refine e_imul dX9_copyRows_168 ?_
                        refine e_iadd dX9_copyRows_169 ?_
                        refine e_iload dX9_copyRows_170 rfl ?_
                        refine e_iadd dX9_copyRows_172 ?_
                        refine e_aload_n dX9_copyRows_173 rfl rfl ?_
                        refine e_iload_n dX9_copyRows_174 rfl rfl ?_
                        refine e_iload_n dX9_copyRows_175 rfl rfl ?_
                        refine e_bipush dX9_copyRows_176 (by decide) ?_
                        refine e_imul dX9_copyRows_178 ?_
                        refine e_iload dX9_copyRows_179 rfl ?_
                        refine e_iadd dX9_copyRows_181 ?_
                        refine e_callV (As := [zI _, zI _]) (cb := 10) dX9_copyRows_182 moX9_screenAt mvX9_screenAt mlX9_164 (by decide) rfl hM.1.1 rfl (Nat.le_of_ble_eq_true rfl) ⟨by decide, by decide, by decide, by decide⟩ (c_X9_screenAt hl hM.1 hJ1.1 hJ1.2.1 hJ1.2.2.1 _ _ hs0 hs1 (by omega) (by omega)) (fun E h1 q => by cases q.1) (fun v h9 q => ?_)
                        obtain ⟨e1, e2⟩ := q; cases e1; rw [e2]; clear e2 h9
                        rw [screenAt_ag ea]
                        refine e_G (fun G => ?_)
                        have rs : zin (screenAt S s (rowN S s * 12 + k)) := by
                          rw [← screenAt_ag ea]
                          exact screen_in hM.1 G
                        refine m_st dX9_copyRows_185 hM (by decide) rfl (by omega) (by simp only [mL]; omega) (by omega) (fun hM => ?_)
                        refine e_iinc dX9_copyRows_186 (by decide) rfl rfl rfl rfl ?_
                        refine e_goto (tgt := 150) dX9_copyRows_189 (by decide) ?_
                        exact ih150 _ _ (by omega) (by omega) (by omega) (MM_eq hM (fun f _ _ j => cpyI_s k0 (screenAt_ag eb _ _).symm)) ht
                  refine e_mask [true, true, true, false, true] ?_
                  exact lp150 13 0 _ (by omega) (by omega) (by omega) (MM_eq hM (fun f _ _ j => if_neg (by omega))) rfl
              · skip
                refine e_aload_n dX9_copyRows_80 rfl rfl ?_
                refine e_iload_n dX9_copyRows_81 rfl rfl ?_
                refine e_iload dX9_copyRows_82 rfl ?_
                refine e_callV (As := [zI _, zI _]) (cb := 10) dX9_copyRows_84 moX9_isLeft mvX9_isLeft mlX9_261 (by decide) rfl hM.1.1 rfl (Nat.le_of_ble_eq_true rfl) ⟨by decide, by decide, by decide, by decide⟩ (c_X9_isLeft hl hM.1 hJ1 _ _ hs0 hs1 (by omega) (by omega)) (fun E h1 q => by cases q.1) (fun v h9 q => ?_)
                obtain ⟨e1, e2⟩ := q; cases e1; rw [e2]; clear e2 h9
                rw [ei]
                refine e_if_eq (tgt := 95) dX9_copyRows_87 (by decide) (by omega) (fun c87 => ?_) (fun c87 => ?_)
                · skip
                  try simp only [b2_0, b2_n0] at c87
                  refine e_iload_n dX9_copyRows_95 rfl rfl ?_
                  refine e_istore_n dX9_copyRows_96 rfl (by decide) rfl rfl ?_
                  refine e_aload_n dX9_copyRows_97 rfl rfl ?_
                  refine m_arr 29 dX9_copyRows_98 flX9_86 rfl hM (by decide) ?_
                  refine e_bipush dX9_copyRows_101 (by decide) ?_
                  refine e_iload_n dX9_copyRows_103 rfl rfl ?_
                  refine e_imul dX9_copyRows_104 ?_
                  refine e_iload dX9_copyRows_105 rfl ?_
                  refine e_iadd dX9_copyRows_107 ?_
                  refine m_ldz dX9_copyRows_108 hM (by decide) rfl (by omega) (by simp only [mL]; omega) (by (try simp (disch := omega) only [up_f, up_i, up_eq, tkO_16, tkO_f]); rfl) (fun r108 => ?_)
                  refine e_if_eq (tgt := 116) dX9_copyRows_109 (by decide) (by omega) (fun c109 => ?_) (fun c109 => ?_)
                  · skip
                    try simp only [b2_0, b2_n0] at c109
                    refine e_iload dX9_copyRows_116 rfl ?_
                    refine e_istore_n dX9_copyRows_118 rfl (by decide) rfl rfl ?_
                    refine e_iinc dX9_copyRows_119 (by decide) rfl rfl rfl rfl ?_
                    refine e_goto (tgt := 75) dX9_copyRows_122 (by decide) ?_
                    rcases es with z | ⟨es1, es2⟩
                    · exfalso
                      omega
                    · exact ih75 _ _ _ (by omega) (by omega) (by omega) (by rw [es1]; first | (rw [if_pos (by omega)]; done) | (rw [if_neg (by omega)]; done)) (by rw [es2]; first | (rw [if_pos (by omega)]; done) | (rw [if_neg (by omega)]; done))
                  · skip
                    try simp only [b2_0, b2_n0] at c109
                    refine e_iload_n dX9_copyRows_112 rfl rfl ?_
                    refine e_goto (tgt := 118) dX9_copyRows_113 (by decide) ?_
                    refine e_istore_n dX9_copyRows_118 rfl (by decide) rfl rfl ?_
                    refine e_iinc dX9_copyRows_119 (by decide) rfl rfl rfl rfl ?_
                    refine e_goto (tgt := 75) dX9_copyRows_122 (by decide) ?_
                    rcases es with z | ⟨es1, es2⟩
                    · exfalso
                      omega
                    · exact ih75 _ _ _ (by omega) (by omega) (by omega) (by rw [es1]; first | (rw [if_pos (by omega)]; done) | (rw [if_neg (by omega)]; done)) (by rw [es2]; first | (rw [if_pos (by omega)]; done) | (rw [if_neg (by omega)]; done))
                · skip
                  try simp only [b2_0, b2_n0] at c87
                  refine e_iload dX9_copyRows_90 rfl ?_
                  refine e_goto (tgt := 96) dX9_copyRows_92 (by decide) ?_
                  refine e_istore_n dX9_copyRows_96 rfl (by decide) rfl rfl ?_
                  refine e_aload_n dX9_copyRows_97 rfl rfl ?_
                  refine m_arr 29 dX9_copyRows_98 flX9_86 rfl hM (by decide) ?_
                  refine e_bipush dX9_copyRows_101 (by decide) ?_
                  refine e_iload_n dX9_copyRows_103 rfl rfl ?_
                  refine e_imul dX9_copyRows_104 ?_
                  refine e_iload dX9_copyRows_105 rfl ?_
                  refine e_iadd dX9_copyRows_107 ?_
                  refine m_ldz dX9_copyRows_108 hM (by decide) rfl (by omega) (by simp only [mL]; omega) (by (try simp (disch := omega) only [up_f, up_i, up_eq, tkO_16, tkO_f]); rfl) (fun r108 => ?_)
                  refine e_if_eq (tgt := 116) dX9_copyRows_109 (by decide) (by omega) (fun c109 => ?_) (fun c109 => ?_)
                  · skip
                    try simp only [b2_0, b2_n0] at c109
                    refine e_iload dX9_copyRows_116 rfl ?_
                    refine e_istore_n dX9_copyRows_118 rfl (by decide) rfl rfl ?_
                    refine e_iinc dX9_copyRows_119 (by decide) rfl rfl rfl rfl ?_
                    refine e_goto (tgt := 75) dX9_copyRows_122 (by decide) ?_
                    rcases es with z | ⟨es1, es2⟩
                    · exfalso
                      omega
                    · exact ih75 _ _ _ (by omega) (by omega) (by omega) (by rw [es1]; first | (rw [if_pos (by omega)]; done) | (rw [if_neg (by omega)]; done)) (by rw [es2]; first | (rw [if_pos (by omega)]; done) | (rw [if_neg (by omega)]; done))
                  · skip
                    try simp only [b2_0, b2_n0] at c109
                    refine e_iload_n dX9_copyRows_112 rfl rfl ?_
                    refine e_goto (tgt := 118) dX9_copyRows_113 (by decide) ?_
                    refine e_istore_n dX9_copyRows_118 rfl (by decide) rfl rfl ?_
                    refine e_iinc dX9_copyRows_119 (by decide) rfl rfl rfl rfl ?_
                    refine e_goto (tgt := 75) dX9_copyRows_122 (by decide) ?_
                    rcases es with z | ⟨es1, es2⟩
                    · exfalso
                      omega
                    · exact ih75 _ _ _ (by omega) (by omega) (by omega) (by rw [es1]; first | (rw [if_pos (by omega)]; done) | (rw [if_neg (by omega)]; done)) (by rw [es2]; first | (rw [if_pos (by omega)]; done) | (rw [if_neg (by omega)]; done))
          exact lp75 9 7 (-1) (-1) (by omega) (by omega) (by omega) rfl rfl
      · skip
        exfalso; omega
    · skip
      refine e_iconst dX9_copyRows_23 ?_
      refine e_goto (tgt := 28) dX9_copyRows_24 (by decide) ?_
      refine m_stz dX9_copyRows_28 hM (by decide) rfl (by omega) (by simp only [mL]; omega) (by first | exact Or.inl rfl | exact Or.inr rfl | assumption) (fun hM => ?_)
      refine e_aload_n dX9_copyRows_29 rfl rfl ?_
      refine m_arr 27 dX9_copyRows_30 flX9_80 rfl hM (by decide) ?_
      refine e_iload_n dX9_copyRows_33 rfl rfl ?_
      refine m_ldz dX9_copyRows_34 hM (by decide) rfl (by omega) (by simp only [mL]; omega) (by (try simp (disch := omega) only [up_f, up_i, up_eq, tkO_16, tkO_f]); rfl) (fun r34 => ?_)
      refine e_if_eq (tgt := 58) dX9_copyRows_35 (by decide) (by omega) (fun c35 => ?_) (fun c35 => ?_)
      · skip
        exfalso; omega
      · skip
        refine e_aload_n dX9_copyRows_38 rfl rfl ?_
        refine m_arr 26 dX9_copyRows_39 flX9_77 rfl hM (by decide) ?_
        refine e_iload_n dX9_copyRows_42 rfl rfl ?_
        refine e_iconst dX9_copyRows_43 ?_
        refine m_stz dX9_copyRows_44 hM (by decide) rfl (by omega) (by simp only [mL]; omega) (by first | exact Or.inl rfl | exact Or.inr rfl | assumption) (fun hM => ?_)
        refine e_aload_n dX9_copyRows_45 rfl rfl ?_
        refine m_arr 28 dX9_copyRows_46 flX9_83 rfl hM (by decide) ?_
        refine e_iload_n dX9_copyRows_49 rfl rfl ?_
        refine e_dup2 dX9_copyRows_50 rfl rfl ?_
        refine m_ld dX9_copyRows_51 hM (by decide) rfl (by omega) (by simp only [mL]; omega) (by (try simp (disch := omega) only [up_f, up_i, up_eq, tkO_16, tkO_f]); rfl) (fun r51 => ?_)
        refine e_iconst dX9_copyRows_52 ?_
        refine e_iadd dX9_copyRows_53 ?_
        refine m_st dX9_copyRows_54 hM (by decide) rfl (by omega) (by simp only [mL]; omega) (by omega) (fun hM => ?_)
        refine e_goto (tgt := 192) dX9_copyRows_55 (by decide) ?_
        refine e_vret dX9_copyRows_192 rfl (by decide) (by decide) ?_
        first
          | (exfalso; omega; done)
          | (rw [show k = 12 by omega] at hM; refine ⟨rfl, MM_eq hM (fun f _ _ j => ?_), (by first | exact ht | rfl)⟩; unfold rowsS; rw [if_neg (by omega), if_pos (by omega)]; done)
          | (refine ⟨rfl, MM_eq hM (fun f _ _ j => ?_), (by first | exact ht | rfl)⟩; unfold rowsS; rw [if_pos (by omega)]; done)
          | (refine ⟨rfl, MM_eq hM (fun f _ _ j => ?_), (by first | exact ht | rfl)⟩; unfold rowsS; rw [if_neg (by omega), if_neg (by omega)]; done)
