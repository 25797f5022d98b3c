set_option maxHeartbeats 4000000 in
set_option maxRecDepth 100000 in
theorem c_X9_lookOf {l : Launch} (hl : l.stackTraces = false) {S : S9} {h : zH} (hM : RM S h) (s n p : Int) (hs0 : 0 ≤ s) (hs1 : s < 4) (hn0 : 0 ≤ n) (hn1 : n < 60) (hp0 : 0 ≤ p) (hp1 : p < 96) : zC l MX9_lookOf [zR (some 99), zI s, zI n, zI p] h (fun o h' => o = .inl (some (zI (S 34 ((60 * s + n) * 96 + p)))) ∧ h' = h) := by
  refine zC_of hl rfl rfl (by decide) rfl rfl (Nat.le_of_ble_eq_true rfl) ?_
  have hM : MM S h h := MM_rf hM
  refine e_aload_n dX9_lookOf_0 rfl rfl ?_
  refine m_arr 34 dX9_lookOf_1 flX9_101 rfl hM (by decide) ?_
  refine e_bipush dX9_lookOf_4 (by decide) ?_
  refine e_iload_n dX9_lookOf_6 rfl rfl ?_
  refine e_imul dX9_lookOf_7 ?_
  refine e_iload_n dX9_lookOf_8 rfl rfl ?_
  refine e_iadd dX9_lookOf_9 ?_
  refine e_bipush dX9_lookOf_10 (by decide) ?_
  refine e_imul dX9_lookOf_12 ?_
  refine e_iload_n dX9_lookOf_13 rfl rfl ?_
  refine e_iadd dX9_lookOf_14 ?_
  refine m_ld dX9_lookOf_15 hM (by decide) rfl (by omega) (by simp only [mL]; omega) rfl (fun r15 => ?_)
  refine e_iret dX9_lookOf_16 rfl trivial (by decide) (by decide) ?_
  exact ⟨rfl, rfl⟩
set_option maxHeartbeats 4000000 in
set_option maxRecDepth 100000 in
theorem c_X9_recordLook {l : Launch} (hl : l.stackTraces = false) {S : S9} {h : zH} (hM : RM S h) (hJ : JJ S) (s : Int) (hs0 : 0 ≤ s) (hs1 : s < 4) (hR : 0 ≤ S 32 s ∧ S 32 s ≤ 60 ∧ 0 ≤ S 33 s ∧ S 33 s ≤ 100000) : zC l MX9_recordLook [zR (some 99), zI s] h (fun o h' => o = .inl none ∧ MM (recS S s) h h' ∧ zf h' 1000 99 = zf h 1000 99) := by
  refine zC_of hl rfl rfl (by decide) rfl rfl (Nat.le_of_ble_eq_true rfl) ?_
  have hM : MM S h h := MM_rf hM
  have hN := hJ.1
  have hI := hJ.2.1
  have hO := hJ.2.2.1
  have hC := hJ.2.2.2.1
  have hK := hJ.2.2.2.2
  have hN2 := hN.2.2.2.2 s hs0 hs1
  refine e_aload_n dX9_recordLook_0 rfl rfl ?_
  refine m_arr 32 dX9_recordLook_1 flX9_95 rfl hM (by decide) ?_
  refine e_iload_n dX9_recordLook_4 rfl rfl ?_
  refine m_ld dX9_recordLook_5 hM (by decide) rfl (by omega) (by simp only [mL]; omega) (by (try simp (disch := omega) only [up_f, up_i, up_eq, tkO_16, tkO_f]); rfl) (fun r5 => ?_)
  refine e_istore_n dX9_recordLook_6 rfl (by decide) rfl rfl ?_
  refine e_aload_n dX9_recordLook_7 rfl rfl ?_
  refine m_arr 31 dX9_recordLook_8 flX9_92 rfl hM (by decide) ?_
  refine e_iload_n dX9_recordLook_11 rfl rfl ?_
  refine m_ldz dX9_recordLook_12 hM (by decide) rfl (by omega) (by simp only [mL]; omega) (by (try simp (disch := omega) only [up_f, up_i, up_eq, tkO_16, tkO_f]); rfl) (fun r12 => ?_)
  refine e_if_eq (tgt := 22) dX9_recordLook_13 (by decide) (by omega) (fun c13 => ?_) (fun c13 => ?_)
  · skip
    try simp only [b2_0, b2_n0] at c13
    refine e_vret dX9_recordLook_22 rfl (by decide) (by decide) ?_
    first
      | (exfalso; omega; done)
      | (refine ⟨rfl, MM_eq hM (fun f _ _ j => ?_), (by first | exact ht | rfl)⟩; unfold recS; rw [if_neg (by omega)]; done)
      | (refine ⟨rfl, MM_eq hM (fun f _ _ j => ?_), (by first | exact ht | rfl)⟩; unfold recS; rw [if_pos (by omega), show p = 96 by omega]; done)
  · skip
    try simp only [b2_0, b2_n0] at c13
    refine e_iload_n dX9_recordLook_16 rfl rfl ?_
    refine e_bipush dX9_recordLook_17 (by decide) ?_
    refine e_icmp_ne (tgt := 23) dX9_recordLook_19 (by decide) (by omega) (by omega) (fun c19 => ?_) (fun c19 => ?_)
    · skip
      refine e_iconst dX9_recordLook_23 ?_
      refine e_istore_n dX9_recordLook_24 rfl (by decide) rfl rfl ?_
      have lp25 : ∀ (d : Nat) (p : Int) (h2 : zH), (96 - p).toNat < d → 0 ≤ p → p ≤ 96 → MM (lokI S s p) h h2 → zf h2 1000 99 = zf h 1000 99 → AW l MX9_recordLook (fun o h' => o = .inl none ∧ MM (recS S s) h h' ∧ zf h' 1000 99 = zf h 1000 99) 0 0 25 [zR (some 99), zI s, zI (S 32 s), zI p, zX, zX] [] h2 := by
        intro d
        induction d with
        | zero => intro p h2 hd p0 p1 hM ht; exact absurd hd (by omega)
        | succ d ih =>
          have ih25 := ih
          intro p h2 hd p0 p1 hM ht
          have ea : agW S (lokI S s p) := fun f h1 h2 j => lokI_f (by omega)
          have hJ1 : JJ (lokI S s p) := JJ_ag (fun f hf j => lokI_f (by unfold jF at hf; omega)) hJ
          have ht1 := topAt_in (s := s) (p := p) hN hO hs0 hs1
          have cc := sg_in1 (f := fun p => b2 (itsL S s p ≠ oldL S s p)) (fun _ _ => b2_le) p p0
          refine e_iload_n dX9_recordLook_25 rfl rfl ?_
          refine e_bipush dX9_recordLook_26 (by decide) ?_
          refine e_icmp_ge (tgt := 128) dX9_recordLook_28 (by decide) (by omega) (by omega) (fun c28 => ?_) (fun c28 => ?_)
          · skip
            refine e_aload_n dX9_recordLook_128 rfl rfl ?_
            refine m_arr 32 dX9_recordLook_129 flX9_95 rfl hM (by decide) ?_
            refine e_iload_n dX9_recordLook_132 rfl rfl ?_
            refine e_dup2 dX9_recordLook_133 rfl rfl ?_
            refine m_ld dX9_recordLook_134 hM (by decide) rfl (by omega) (by simp only [mL]; omega) (lokI_f (by omega)) (fun r134 => ?_)
            refine e_iconst dX9_recordLook_135 ?_
            refine e_iadd dX9_recordLook_136 ?_
            refine m_st dX9_recordLook_137 hM (by decide) rfl (by omega) (by simp only [mL]; omega) (by omega) (fun hM => ?_)
            refine e_vret dX9_recordLook_138 rfl (by decide) (by decide) ?_
            first
              | (exfalso; omega; done)
              | (refine ⟨rfl, MM_eq hM (fun f _ _ j => ?_), (by first | exact ht | rfl)⟩; unfold recS; rw [if_neg (by omega)]; done)
              | (refine ⟨rfl, MM_eq hM (fun f _ _ j => ?_), (by first | exact ht | rfl)⟩; unfold recS; rw [if_pos (by omega), show p = 96 by omega]; done)
          · skip
            refine e_aload_n dX9_recordLook_31 rfl rfl ?_
            refine e_iload_n dX9_recordLook_32 rfl rfl ?_
            refine e_iload_n dX9_recordLook_33 rfl rfl ?_
            refine e_callV (As := [zI _, zI _]) (cb := 10) dX9_recordLook_34 moX9_topAt mvX9_topAt mlX9_161 (by decide) rfl hM.1.1 rfl (Nat.le_of_ble_eq_true rfl) ⟨by decide, by decide, by decide, by decide⟩ (c_X9_topAt hl hM.1 hJ1.1 hJ1.2.1 hJ1.2.2.1 _ _ hs0 hs1 p0 (by omega)) (fun E h1 q => by cases q.1) (fun v h9 q => ?_)
            obtain ⟨e1, e2⟩ := q; cases e1; rw [e2]; clear e2 h9
            rw [topAt_ag ea]
            refine e_istore dX9_recordLook_37 (by decide) rfl rfl ?_
            refine e_iload dX9_recordLook_39 rfl ?_
            refine e_if_lt (tgt := 60) dX9_recordLook_41 (by decide) (by omega) (fun c41 => ?_) (fun c41 => ?_)
            · skip
              refine e_aload_n dX9_recordLook_60 rfl rfl ?_
              refine e_iload_n dX9_recordLook_61 rfl rfl ?_
              refine e_iload_n dX9_recordLook_62 rfl rfl ?_
              refine e_callV (As := [zI _, zI _]) (cb := 10) dX9_recordLook_63 moX9_screenAt mvX9_screenAt mlX9_164 (by decide) rfl hM.1.1 rfl (Nat.le_of_ble_eq_true rfl) ⟨by decide, by decide, by decide, by decide⟩ (c_X9_screenAt hl hM.1 hJ1.1 hJ1.2.1 hJ1.2.2.1 _ _ hs0 hs1 p0 (by omega)) (fun E h1 q => by cases q.1) (fun v h9 q => ?_)
              obtain ⟨e1, e2⟩ := q; cases e1; rw [e2]; clear e2 h9
              rw [screenAt_ag ea]
              refine e_G (fun G => ?_)
              have rs : zin (screenAt S s p) := by
                rw [← screenAt_ag ea]
                exact screen_in hM.1 G
              first
                | have hit : (255 : Int) = itsL S s p := (if_pos (by omega) : itsL S s p = 255).symm
                | have hit : screenAt S s p = itsL S s p := (if_neg (by omega) : itsL S s p = screenAt S s p).symm
              refine e_istore dX9_recordLook_66 (by decide) rfl rfl ?_
              refine e_aload_n dX9_recordLook_68 rfl rfl ?_
              refine m_arr 34 dX9_recordLook_69 flX9_101 rfl hM (by decide) ?_
              refine e_bipush dX9_recordLook_72 (by decide) ?_
              refine e_iload_n dX9_recordLook_74 rfl rfl ?_
              refine e_imul dX9_recordLook_75 ?_
              refine e_iload_n dX9_recordLook_76 rfl rfl ?_
              refine e_iadd dX9_recordLook_77 ?_
              refine e_bipush dX9_recordLook_78 (by decide) ?_
              refine e_imul dX9_recordLook_80 ?_
              refine e_iload_n dX9_recordLook_81 rfl rfl ?_
              refine e_iadd dX9_recordLook_82 ?_
              refine e_iload dX9_recordLook_83 rfl ?_
              refine m_st dX9_recordLook_85 hM (by decide) rfl (by omega) (by simp only [mL]; omega) (by omega) (fun hM => ?_)
              refine e_aload_n dX9_recordLook_86 rfl rfl ?_
              refine m_arr 33 dX9_recordLook_87 flX9_98 rfl hM (by decide) ?_
              refine e_iload_n dX9_recordLook_90 rfl rfl ?_
              refine e_dup2 dX9_recordLook_91 rfl rfl ?_
              refine m_ld dX9_recordLook_92 hM (by decide) rfl (by omega) (by simp only [mL]; omega) ((up_f (by omega)).trans lokI_33) (fun r92 => ?_)
              refine e_iload dX9_recordLook_93 rfl ?_
              refine e_iload_n dX9_recordLook_95 rfl rfl ?_
              refine e_if_ne (tgt := 103) dX9_recordLook_96 (by decide) (by omega) (fun c96 => ?_) (fun c96 => ?_)
              · skip
                try simp only [b2_0, b2_n0] at c96
                have hol : oldL S s p = S 34 ((60 * s + (S 32 s - 1)) * 96 + p) := if_neg (by omega)
                refine e_aload_n dX9_recordLook_103 rfl rfl ?_
                refine e_iload_n dX9_recordLook_104 rfl rfl ?_
                refine e_iload_n dX9_recordLook_105 rfl rfl ?_
                refine e_iconst dX9_recordLook_106 ?_
                refine e_isub dX9_recordLook_107 ?_
                refine e_iload_n dX9_recordLook_108 rfl rfl ?_
                refine e_callV (As := [zI _, zI _, zI _]) (cb := 10) dX9_recordLook_109 moX9_lookOf mvX9_lookOf mlX9_267 (by decide) rfl hM.1.1 rfl (Nat.le_of_ble_eq_true rfl) ⟨by decide, by decide, by decide, by decide⟩ (c_X9_lookOf hl hM.1 _ _ _ hs0 hs1 (by omega) (by omega) p0 (by omega)) (fun E h1 q => by cases q.1) (fun v h9 q => ?_)
                obtain ⟨e1, e2⟩ := q; cases e1; rw [e2]; clear e2 h9
                have eo : ∀ v : Int, up (lokI S s p) 34 ((60 * s + S 32 s) * 96 + p) v 34 ((60 * s + (S 32 s - 1)) * 96 + p) = oldL S s p := fun v => by rw [up_i (by omega), lokI_old (by omega), hol]
                rw [eo]
                refine e_G (fun G => ?_)
                have rz : zin (oldL S s p) := by
                  have e9 := (hM.1.2.2.2 34 (by omega) (by omega)).2.2.2 (by omega) ((60 * s + (S 32 s - 1)) * 96 + p)
                  rw [eo] at e9
                  rw [← e9]
                  exact G.2.1 _ _
                refine e_icmp_ne (tgt := 119) dX9_recordLook_112 (by decide) (by omega) (by omega) (fun c112 => ?_) (fun c112 => ?_)
                · skip
                  refine e_iconst dX9_recordLook_119 ?_
                  refine e_iadd dX9_recordLook_120 ?_
                  refine m_st dX9_recordLook_121 hM (by decide) rfl (by omega) (by simp only [mL]; omega) (by omega) (fun hM => ?_)
                  refine e_iinc dX9_recordLook_122 (by decide) rfl rfl rfl rfl ?_
                  refine e_goto (tgt := 25) dX9_recordLook_125 (by decide) ?_
                  refine e_mask [true, true, true, true, false, false] ?_
                  first
                    | (exfalso; omega; done)
                    | exact ih25 _ _ (by omega) (by omega) (by omega) (MM_eq hM (fun f _ _ j => lokI_s p0 hit (by first | (rw [b2_t (by omega)]; done) | (rw [b2_f (by omega)]; done)))) ht
                · skip
                  refine e_iconst dX9_recordLook_115 ?_
                  refine e_goto (tgt := 120) dX9_recordLook_116 (by decide) ?_
                  refine e_iadd dX9_recordLook_120 ?_
                  refine m_st dX9_recordLook_121 hM (by decide) rfl (by omega) (by simp only [mL]; omega) (by omega) (fun hM => ?_)
                  refine e_iinc dX9_recordLook_122 (by decide) rfl rfl rfl rfl ?_
                  refine e_goto (tgt := 25) dX9_recordLook_125 (by decide) ?_
                  refine e_mask [true, true, true, true, false, false] ?_
                  first
                    | (exfalso; omega; done)
                    | exact ih25 _ _ (by omega) (by omega) (by omega) (MM_eq hM (fun f _ _ j => lokI_s p0 hit (by first | (rw [b2_t (by omega)]; done) | (rw [b2_f (by omega)]; done)))) ht
              · skip
                try simp only [b2_0, b2_n0] at c96
                have hol : oldL S s p = 0 := if_pos (by omega)
                refine e_iconst dX9_recordLook_99 ?_
                refine e_goto (tgt := 112) dX9_recordLook_100 (by decide) ?_
                refine e_icmp_ne (tgt := 119) dX9_recordLook_112 (by decide) (by omega) (by omega) (fun c112 => ?_) (fun c112 => ?_)
                · skip
                  refine e_iconst dX9_recordLook_119 ?_
                  refine e_iadd dX9_recordLook_120 ?_
                  refine m_st dX9_recordLook_121 hM (by decide) rfl (by omega) (by simp only [mL]; omega) (by omega) (fun hM => ?_)
                  refine e_iinc dX9_recordLook_122 (by decide) rfl rfl rfl rfl ?_
                  refine e_goto (tgt := 25) dX9_recordLook_125 (by decide) ?_
                  refine e_mask [true, true, true, true, false, false] ?_
                  first
                    | (exfalso; omega; done)
                    | exact ih25 _ _ (by omega) (by omega) (by omega) (MM_eq hM (fun f _ _ j => lokI_s p0 hit (by first | (rw [b2_t (by omega)]; done) | (rw [b2_f (by omega)]; done)))) ht
                · skip
                  refine e_iconst dX9_recordLook_115 ?_
                  refine e_goto (tgt := 120) dX9_recordLook_116 (by decide) ?_
                  refine e_iadd dX9_recordLook_120 ?_
                  refine m_st dX9_recordLook_121 hM (by decide) rfl (by omega) (by simp only [mL]; omega) (by omega) (fun hM => ?_)
                  refine e_iinc dX9_recordLook_122 (by decide) rfl rfl rfl rfl ?_
                  refine e_goto (tgt := 25) dX9_recordLook_125 (by decide) ?_
                  refine e_mask [true, true, true, true, false, false] ?_
                  first
                    | (exfalso; omega; done)
                    | exact ih25 _ _ (by omega) (by omega) (by omega) (MM_eq hM (fun f _ _ j => lokI_s p0 hit (by first | (rw [b2_t (by omega)]; done) | (rw [b2_f (by omega)]; done)))) ht
            · skip
              refine e_aload_n dX9_recordLook_44 rfl rfl ?_
              refine m_arr 12 dX9_recordLook_45 flX9_35 rfl hM (by decide) ?_
              refine e_iload dX9_recordLook_48 rfl ?_
              refine m_ldz dX9_recordLook_50 hM (by decide) rfl (by omega) (by simp only [mL]; omega) (lokI_f (by omega)) (fun r50 => ?_)
              refine e_if_eq (tgt := 60) dX9_recordLook_51 (by decide) (by omega) (fun c51 => ?_) (fun c51 => ?_)
              · skip
                try simp only [b2_0, b2_n0] at c51
                refine e_aload_n dX9_recordLook_60 rfl rfl ?_
                refine e_iload_n dX9_recordLook_61 rfl rfl ?_
                refine e_iload_n dX9_recordLook_62 rfl rfl ?_
                refine e_callV (As := [zI _, zI _]) (cb := 10) dX9_recordLook_63 moX9_screenAt mvX9_screenAt mlX9_164 (by decide) rfl hM.1.1 rfl (Nat.le_of_ble_eq_true rfl) ⟨by decide, by decide, by decide, by decide⟩ (c_X9_screenAt hl hM.1 hJ1.1 hJ1.2.1 hJ1.2.2.1 _ _ hs0 hs1 p0 (by omega)) (fun E h1 q => by cases q.1) (fun v h9 q => ?_)
                obtain ⟨e1, e2⟩ := q; cases e1; rw [e2]; clear e2 h9
                rw [screenAt_ag ea]
                refine e_G (fun G => ?_)
                have rs : zin (screenAt S s p) := by
                  rw [← screenAt_ag ea]
                  exact screen_in hM.1 G
                first
                  | have hit : (255 : Int) = itsL S s p := (if_pos (by omega) : itsL S s p = 255).symm
                  | have hit : screenAt S s p = itsL S s p := (if_neg (by omega) : itsL S s p = screenAt S s p).symm
                refine e_istore dX9_recordLook_66 (by decide) rfl rfl ?_
                refine e_aload_n dX9_recordLook_68 rfl rfl ?_
                refine m_arr 34 dX9_recordLook_69 flX9_101 rfl hM (by decide) ?_
                refine e_bipush dX9_recordLook_72 (by decide) ?_
                refine e_iload_n dX9_recordLook_74 rfl rfl ?_
                refine e_imul dX9_recordLook_75 ?_
                refine e_iload_n dX9_recordLook_76 rfl rfl ?_
                refine e_iadd dX9_recordLook_77 ?_
                refine e_bipush dX9_recordLook_78 (by decide) ?_
                refine e_imul dX9_recordLook_80 ?_
                refine e_iload_n dX9_recordLook_81 rfl rfl ?_
                refine e_iadd dX9_recordLook_82 ?_
                refine e_iload dX9_recordLook_83 rfl ?_
                refine m_st dX9_recordLook_85 hM (by decide) rfl (by omega) (by simp only [mL]; omega) (by omega) (fun hM => ?_)
                refine e_aload_n dX9_recordLook_86 rfl rfl ?_
                refine m_arr 33 dX9_recordLook_87 flX9_98 rfl hM (by decide) ?_
                refine e_iload_n dX9_recordLook_90 rfl rfl ?_
                refine e_dup2 dX9_recordLook_91 rfl rfl ?_
                refine m_ld dX9_recordLook_92 hM (by decide) rfl (by omega) (by simp only [mL]; omega) ((up_f (by omega)).trans lokI_33) (fun r92 => ?_)
                refine e_iload dX9_recordLook_93 rfl ?_
                refine e_iload_n dX9_recordLook_95 rfl rfl ?_
                refine e_if_ne (tgt := 103) dX9_recordLook_96 (by decide) (by omega) (fun c96 => ?_) (fun c96 => ?_)
                · skip
                  try simp only [b2_0, b2_n0] at c96
                  have hol : oldL S s p = S 34 ((60 * s + (S 32 s - 1)) * 96 + p) := if_neg (by omega)
                  refine e_aload_n dX9_recordLook_103 rfl rfl ?_
                  refine e_iload_n dX9_recordLook_104 rfl rfl ?_
                  refine e_iload_n dX9_recordLook_105 rfl rfl ?_
                  refine e_iconst dX9_recordLook_106 ?_
                  refine e_isub dX9_recordLook_107 ?_
                  refine e_iload_n dX9_recordLook_108 rfl rfl ?_
                  refine e_callV (As := [zI _, zI _, zI _]) (cb := 10) dX9_recordLook_109 moX9_lookOf mvX9_lookOf mlX9_267 (by decide) rfl hM.1.1 rfl (Nat.le_of_ble_eq_true rfl) ⟨by decide, by decide, by decide, by decide⟩ (c_X9_lookOf hl hM.1 _ _ _ hs0 hs1 (by omega) (by omega) p0 (by omega)) (fun E h1 q => by cases q.1) (fun v h9 q => ?_)
                  obtain ⟨e1, e2⟩ := q; cases e1; rw [e2]; clear e2 h9
                  have eo : ∀ v : Int, up (lokI S s p) 34 ((60 * s + S 32 s) * 96 + p) v 34 ((60 * s + (S 32 s - 1)) * 96 + p) = oldL S s p := fun v => by rw [up_i (by omega), lokI_old (by omega), hol]
                  rw [eo]
                  refine e_G (fun G => ?_)
                  have rz : zin (oldL S s p) := by
                    have e9 := (hM.1.2.2.2 34 (by omega) (by omega)).2.2.2 (by omega) ((60 * s + (S 32 s - 1)) * 96 + p)
                    rw [eo] at e9
                    rw [← e9]
                    exact G.2.1 _ _
                  refine e_icmp_ne (tgt := 119) dX9_recordLook_112 (by decide) (by omega) (by omega) (fun c112 => ?_) (fun c112 => ?_)
                  · skip
                    refine e_iconst dX9_recordLook_119 ?_
                    refine e_iadd dX9_recordLook_120 ?_
                    refine m_st dX9_recordLook_121 hM (by decide) rfl (by omega) (by simp only [mL]; omega) (by omega) (fun hM => ?_)
                    refine e_iinc dX9_recordLook_122 (by decide) rfl rfl rfl rfl ?_
                    refine e_goto (tgt := 25) dX9_recordLook_125 (by decide) ?_
                    refine e_mask [true, true, true, true, false, false] ?_
                    first
                      | (exfalso; omega; done)
                      | exact ih25 _ _ (by omega) (by omega) (by omega) (MM_eq hM (fun f _ _ j => lokI_s p0 hit (by first | (rw [b2_t (by omega)]; done) | (rw [b2_f (by omega)]; done)))) ht
                  · skip
                    refine e_iconst dX9_recordLook_115 ?_
                    refine e_goto (tgt := 120) dX9_recordLook_116 (by decide) ?_
                    refine e_iadd dX9_recordLook_120 ?_
                    refine m_st dX9_recordLook_121 hM (by decide) rfl (by omega) (by simp only [mL]; omega) (by omega) (fun hM => ?_)
                    refine e_iinc dX9_recordLook_122 (by decide) rfl rfl rfl rfl ?_
                    refine e_goto (tgt := 25) dX9_recordLook_125 (by decide) ?_
                    refine e_mask [true, true, true, true, false, false] ?_
                    first
                      | (exfalso; omega; done)
                      | exact ih25 _ _ (by omega) (by omega) (by omega) (MM_eq hM (fun f _ _ j => lokI_s p0 hit (by first | (rw [b2_t (by omega)]; done) | (rw [b2_f (by omega)]; done)))) ht
                · skip
                  try simp only [b2_0, b2_n0] at c96
                  have hol : oldL S s p = 0 := if_pos (by omega)
                  refine e_iconst dX9_recordLook_99 ?_
                  refine e_goto (tgt := 112) dX9_recordLook_100 (by decide) ?_
                  refine e_icmp_ne (tgt := 119) dX9_recordLook_112 (by decide) (by omega) (by omega) (fun c112 => ?_) (fun c112 => ?_)
                  · skip
                    refine e_iconst dX9_recordLook_119 ?_
                    refine e_iadd dX9_recordLook_120 ?_
                    refine m_st dX9_recordLook_121 hM (by decide) rfl (by omega) (by simp only [mL]; omega) (by omega) (fun hM => ?_)
                    refine e_iinc dX9_recordLook_122 (by decide) rfl rfl rfl rfl ?_
                    refine e_goto (tgt := 25) dX9_recordLook_125 (by decide) ?_
                    refine e_mask [true, true, true, true, false, false] ?_
                    first
                      | (exfalso; omega; done)
                      | exact ih25 _ _ (by omega) (by omega) (by omega) (MM_eq hM (fun f _ _ j => lokI_s p0 hit (by first | (rw [b2_t (by omega)]; done) | (rw [b2_f (by omega)]; done)))) ht
                  · skip
                    refine e_iconst dX9_recordLook_115 ?_
                    refine e_goto (tgt := 120) dX9_recordLook_116 (by decide) ?_
                    refine e_iadd dX9_recordLook_120 ?_
                    refine m_st dX9_recordLook_121 hM (by decide) rfl (by omega) (by simp only [mL]; omega) (by omega) (fun hM => ?_)
                    refine e_iinc dX9_recordLook_122 (by decide) rfl rfl rfl rfl ?_
                    refine e_goto (tgt := 25) dX9_recordLook_125 (by decide) ?_
                    refine e_mask [true, true, true, true, false, false] ?_
                    first
                      | (exfalso; omega; done)
                      | exact ih25 _ _ (by omega) (by omega) (by omega) (MM_eq hM (fun f _ _ j => lokI_s p0 hit (by first | (rw [b2_t (by omega)]; done) | (rw [b2_f (by omega)]; done)))) ht
              · skip
                try simp only [b2_0, b2_n0] at c51
                refine e_sipush dX9_recordLook_54 (by decide) ?_
                refine e_goto (tgt := 66) dX9_recordLook_57 (by decide) ?_
                first
                  | have hit : (255 : Int) = itsL S s p := (if_pos (by omega) : itsL S s p = 255).symm
                  | have hit : screenAt S s p = itsL S s p := (if_neg (by omega) : itsL S s p = screenAt S s p).symm
                refine e_istore dX9_recordLook_66 (by decide) rfl rfl ?_
                refine e_aload_n dX9_recordLook_68 rfl rfl ?_
                refine m_arr 34 dX9_recordLook_69 flX9_101 rfl hM (by decide) ?_
                refine e_bipush dX9_recordLook_72 (by decide) ?_
                refine e_iload_n dX9_recordLook_74 rfl rfl ?_
                refine e_imul dX9_recordLook_75 ?_
                refine e_iload_n dX9_recordLook_76 rfl rfl ?_
                refine e_iadd dX9_recordLook_77 ?_
                refine e_bipush dX9_recordLook_78 (by decide) ?_
                refine e_imul dX9_recordLook_80 ?_
                refine e_iload_n dX9_recordLook_81 rfl rfl ?_
                refine e_iadd dX9_recordLook_82 ?_
                refine e_iload dX9_recordLook_83 rfl ?_
                refine m_st dX9_recordLook_85 hM (by decide) rfl (by omega) (by simp only [mL]; omega) (by omega) (fun hM => ?_)
                refine e_aload_n dX9_recordLook_86 rfl rfl ?_
                refine m_arr 33 dX9_recordLook_87 flX9_98 rfl hM (by decide) ?_
                refine e_iload_n dX9_recordLook_90 rfl rfl ?_
                refine e_dup2 dX9_recordLook_91 rfl rfl ?_
                refine m_ld dX9_recordLook_92 hM (by decide) rfl (by omega) (by simp only [mL]; omega) ((up_f (by omega)).trans lokI_33) (fun r92 => ?_)
                refine e_iload dX9_recordLook_93 rfl ?_
                refine e_iload_n dX9_recordLook_95 rfl rfl ?_
                refine e_if_ne (tgt := 103) dX9_recordLook_96 (by decide) (by omega) (fun c96 => ?_) (fun c96 => ?_)
                · skip
                  try simp only [b2_0, b2_n0] at c96
                  have hol : oldL S s p = S 34 ((60 * s + (S 32 s - 1)) * 96 + p) := if_neg (by omega)
                  refine e_aload_n dX9_recordLook_103 rfl rfl ?_
                  refine e_iload_n dX9_recordLook_104 rfl rfl ?_
                  refine e_iload_n dX9_recordLook_105 rfl rfl ?_
                  refine e_iconst dX9_recordLook_106 ?_
                  refine e_isub dX9_recordLook_107 ?_
                  refine e_iload_n dX9_recordLook_108 rfl rfl ?_
                  refine e_callV (As := [zI _, zI _, zI _]) (cb := 10) dX9_recordLook_109 moX9_lookOf mvX9_lookOf mlX9_267 (by decide) rfl hM.1.1 rfl (Nat.le_of_ble_eq_true rfl) ⟨by decide, by decide, by decide, by decide⟩ (c_X9_lookOf hl hM.1 _ _ _ hs0 hs1 (by omega) (by omega) p0 (by omega)) (fun E h1 q => by cases q.1) (fun v h9 q => ?_)
                  obtain ⟨e1, e2⟩ := q; cases e1; rw [e2]; clear e2 h9
                  have eo : ∀ v : Int, up (lokI S s p) 34 ((60 * s + S 32 s) * 96 + p) v 34 ((60 * s + (S 32 s - 1)) * 96 + p) = oldL S s p := fun v => by rw [up_i (by omega), lokI_old (by omega), hol]
                  rw [eo]
                  refine e_G (fun G => ?_)
                  have rz : zin (oldL S s p) := by
                    have e9 := (hM.1.2.2.2 34 (by omega) (by omega)).2.2.2 (by omega) ((60 * s + (S 32 s - 1)) * 96 + p)
                    rw [eo] at e9
                    rw [← e9]
                    exact G.2.1 _ _
                  refine e_icmp_ne (tgt := 119) dX9_recordLook_112 (by decide) (by omega) (by omega) (fun c112 => ?_) (fun c112 => ?_)
                  · skip
                    refine e_iconst dX9_recordLook_119 ?_
                    refine e_iadd dX9_recordLook_120 ?_
                    refine m_st dX9_recordLook_121 hM (by decide) rfl (by omega) (by simp only [mL]; omega) (by omega) (fun hM => ?_)
                    refine e_iinc dX9_recordLook_122 (by decide) rfl rfl rfl rfl ?_
                    refine e_goto (tgt := 25) dX9_recordLook_125 (by decide) ?_
                    refine e_mask [true, true, true, true, false, false] ?_
                    first
                      | (exfalso; omega; done)
                      | exact ih25 _ _ (by omega) (by omega) (by omega) (MM_eq hM (fun f _ _ j => lokI_s p0 hit (by first | (rw [b2_t (by omega)]; done) | (rw [b2_f (by omega)]; done)))) ht
                  · skip
                    refine e_iconst dX9_recordLook_115 ?_
                    refine e_goto (tgt := 120) dX9_recordLook_116 (by decide) ?_
                    refine e_iadd dX9_recordLook_120 ?_
                    refine m_st dX9_recordLook_121 hM (by decide) rfl (by omega) (by simp only [mL]; omega) (by omega) (fun hM => ?_)
                    refine e_iinc dX9_recordLook_122 (by decide) rfl rfl rfl rfl ?_
                    refine e_goto (tgt := 25) dX9_recordLook_125 (by decide) ?_
                    refine e_mask [true, true, true, true, false, false] ?_
                    first
                      | (exfalso; omega; done)
                      | exact ih25 _ _ (by omega) (by omega) (by omega) (MM_eq hM (fun f _ _ j => lokI_s p0 hit (by first | (rw [b2_t (by omega)]; done) | (rw [b2_f (by omega)]; done)))) ht
                · skip
                  try simp only [b2_0, b2_n0] at c96
                  have hol : oldL S s p = 0 := if_pos (by omega)
                  refine e_iconst dX9_recordLook_99 ?_
                  refine e_goto (tgt := 112) dX9_recordLook_100 (by decide) ?_
                  refine e_icmp_ne (tgt := 119) dX9_recordLook_112 (by decide) (by omega) (by omega) (fun c112 => ?_) (fun c112 => ?_)
                  · skip
                    refine e_iconst dX9_recordLook_119 ?_
                    refine e_iadd dX9_recordLook_120 ?_
                    refine m_st dX9_recordLook_121 hM (by decide) rfl (by omega) (by simp only [mL]; omega) (by omega) (fun hM => ?_)
                    refine e_iinc dX9_recordLook_122 (by decide) rfl rfl rfl rfl ?_
                    refine e_goto (tgt := 25) dX9_recordLook_125 (by decide) ?_
                    refine e_mask [true, true, true, true, false, false] ?_
                    first
                      | (exfalso; omega; done)
                      | exact ih25 _ _ (by omega) (by omega) (by omega) (MM_eq hM (fun f _ _ j => lokI_s p0 hit (by first | (rw [b2_t (by omega)]; done) | (rw [b2_f (by omega)]; done)))) ht
                  · skip
                    refine e_iconst dX9_recordLook_115 ?_
                    refine e_goto (tgt := 120) dX9_recordLook_116 (by decide) ?_
                    refine e_iadd dX9_recordLook_120 ?_
                    refine m_st dX9_recordLook_121 hM (by decide) rfl (by omega) (by simp only [mL]; omega) (by omega) (fun hM => ?_)
                    refine e_iinc dX9_recordLook_122 (by decide) rfl rfl rfl rfl ?_
                    refine e_goto (tgt := 25) dX9_recordLook_125 (by decide) ?_
                    refine e_mask [true, true, true, true, false, false] ?_
                    first
                      | (exfalso; omega; done)
                      | exact ih25 _ _ (by omega) (by omega) (by omega) (MM_eq hM (fun f _ _ j => lokI_s p0 hit (by first | (rw [b2_t (by omega)]; done) | (rw [b2_f (by omega)]; done)))) ht
      exact lp25 97 0 _ (by omega) (by omega) (by omega) (MM_eq hM (fun f _ _ j => by unfold lokI; rw [if_neg (by omega)]; split <;> first | rfl | (rename_i e; rw [e.1, e.2]; exact Int.add_zero _))) rfl
    · skip
      refine e_vret dX9_recordLook_22 rfl (by decide) (by decide) ?_
      first
        | (exfalso; omega; done)
        | (refine ⟨rfl, MM_eq hM (fun f _ _ j => ?_), (by first | exact ht | rfl)⟩; unfold recS; rw [if_neg (by omega)]; done)
        | (refine ⟨rfl, MM_eq hM (fun f _ _ j => ?_), (by first | exact ht | rfl)⟩; unfold recS; rw [if_pos (by omega), show p = 96 by omega]; done)
set_option maxHeartbeats 4000000 in
set_option maxRecDepth 100000 in
theorem c_X9_record {l : Launch} (hl : l.stackTraces = false) {S : S9} {h : zH} (hM : RM S h) (hN : IN S) (s : Int) (hs : zin s) : zC l MX9_record [zR (some 99), zI s] h (QM S h (if ¬ isS S s then 1 else 0) (zI 0) (zI (S 32 s)) (up (up (up S 32 s 0) 33 s 0) 31 s 1)) := by
  refine zC_of hl rfl rfl (by decide) rfl rfl (Nat.le_of_ble_eq_true rfl) ?_
  have hM : MM S h h := MM_rf hM
  have hN2 := hN
  obtain ⟨n1, n2, n3, n4, n5⟩ := hN2
  refine e_aload_n dX9_record_0 rfl rfl ?_
  refine e_iload_n dX9_record_1 rfl rfl ?_
  refine e_callV (As := [zI _]) (cb := 10) dX9_record_2 moX9_failsSession mvX9_failsSession mlX9_146 (by decide) rfl hM.1.1 rfl (Nat.le_of_ble_eq_true rfl) ⟨by decide, by decide, by decide, by decide⟩ (c_X9_failsSession hl hM.1 hN _ hs) (fun E h1 q => by cases q.1) (fun v h1 q => ?_)
  obtain ⟨e1, e2⟩ := q; cases e1; have ht := thr e2; have hM := MM_thr hM e2
  refine e_if_eq (tgt := 10) dX9_record_5 (by decide) b2_in (fun c5 => ?_) (fun c5 => ?_)
  · skip
    try simp only [b2_0, b2_n0] at c5
    refine e_aload_n dX9_record_10 rfl rfl ?_
    refine m_arr 32 dX9_record_11 flX9_95 rfl hM (by decide) ?_
    refine e_iload_n dX9_record_14 rfl rfl ?_
    refine m_ld dX9_record_15 hM (by decide) rfl (by omega) (by simp only [mL]; omega) rfl (fun r15 => ?_)
    refine e_istore_n dX9_record_16 rfl (by decide) rfl rfl ?_
    refine e_aload_n dX9_record_17 rfl rfl ?_
    refine m_arr 32 dX9_record_18 flX9_95 rfl hM (by decide) ?_
    refine e_iload_n dX9_record_21 rfl rfl ?_
    refine e_iconst dX9_record_22 ?_
    refine m_st dX9_record_23 hM (by decide) rfl (by omega) (by simp only [mL]; omega) (by omega) (fun hM => ?_)
    refine e_aload_n dX9_record_24 rfl rfl ?_
    refine m_arr 33 dX9_record_25 flX9_98 rfl hM (by decide) ?_
    refine e_iload_n dX9_record_28 rfl rfl ?_
    refine e_iconst dX9_record_29 ?_
    refine m_st dX9_record_30 hM (by decide) rfl (by omega) (by simp only [mL]; omega) (by omega) (fun hM => ?_)
    refine e_aload_n dX9_record_31 rfl rfl ?_
    refine m_arr 31 dX9_record_32 flX9_92 rfl hM (by decide) ?_
    refine e_iload_n dX9_record_35 rfl rfl ?_
    refine e_iconst dX9_record_36 ?_
    refine m_stz dX9_record_37 hM (by decide) rfl (by omega) (by simp only [mL]; omega) (by first | exact Or.inl rfl | exact Or.inr rfl | assumption) (fun hM => ?_)
    refine e_iload_n dX9_record_38 rfl rfl ?_
    refine e_iret dX9_record_39 rfl trivial (by decide) (by decide) ?_
    first | (exfalso; omega; done) | exact QM_no (ht.trans (b2_t (by omega))) (by first | (rw [if_pos (by omega)]; done) | (rw [if_neg (by omega), if_pos (by omega)]; done) | (rw [if_neg (by omega), if_neg (by omega), if_pos (by omega)]; done) | (rw [if_neg (by omega), if_neg (by omega), if_neg (by omega), if_pos (by omega)]; done)) (by decide) hM | exact QM_no ht (by first | (rw [if_pos (by omega)]; done) | (rw [if_neg (by omega), if_pos (by omega)]; done) | (rw [if_neg (by omega), if_neg (by omega), if_pos (by omega)]; done) | (rw [if_neg (by omega), if_neg (by omega), if_neg (by omega), if_pos (by omega)]; done)) (by decide) hM | exact QM_ok (ht.trans (b2_f (by omega))) (by first | (rw [if_neg (by omega)]; done) | (rw [if_neg (by omega), if_neg (by omega)]; done) | (rw [if_neg (by omega), if_neg (by omega), if_neg (by omega)]; done) | (rw [if_neg (by omega), if_neg (by omega), if_neg (by omega), if_neg (by omega)]; done)) rfl hM | exact QM_ok ht (by first | (rw [if_neg (by omega)]; done) | (rw [if_neg (by omega), if_neg (by omega)]; done) | (rw [if_neg (by omega), if_neg (by omega), if_neg (by omega)]; done) | (rw [if_neg (by omega), if_neg (by omega), if_neg (by omega), if_neg (by omega)]; done)) rfl hM
  · skip
    try simp only [b2_0, b2_n0] at c5
    refine e_iconst dX9_record_8 ?_
    refine e_iret dX9_record_9 rfl trivial (by decide) (by decide) ?_
    first | (exfalso; omega; done) | exact QM_no (ht.trans (b2_t (by omega))) (by first | (rw [if_pos (by omega)]; done) | (rw [if_neg (by omega), if_pos (by omega)]; done) | (rw [if_neg (by omega), if_neg (by omega), if_pos (by omega)]; done) | (rw [if_neg (by omega), if_neg (by omega), if_neg (by omega), if_pos (by omega)]; done)) (by decide) hM | exact QM_no ht (by first | (rw [if_pos (by omega)]; done) | (rw [if_neg (by omega), if_pos (by omega)]; done) | (rw [if_neg (by omega), if_neg (by omega), if_pos (by omega)]; done) | (rw [if_neg (by omega), if_neg (by omega), if_neg (by omega), if_pos (by omega)]; done)) (by decide) hM | exact QM_ok (ht.trans (b2_f (by omega))) (by first | (rw [if_neg (by omega)]; done) | (rw [if_neg (by omega), if_neg (by omega)]; done) | (rw [if_neg (by omega), if_neg (by omega), if_neg (by omega)]; done) | (rw [if_neg (by omega), if_neg (by omega), if_neg (by omega), if_neg (by omega)]; done)) rfl hM | exact QM_ok ht (by first | (rw [if_neg (by omega)]; done) | (rw [if_neg (by omega), if_neg (by omega)]; done) | (rw [if_neg (by omega), if_neg (by omega), if_neg (by omega)]; done) | (rw [if_neg (by omega), if_neg (by omega), if_neg (by omega), if_neg (by omega)]; done)) rfl hM
set_option maxHeartbeats 4000000 in
set_option maxRecDepth 100000 in
theorem c_X9_host {l : Launch} (hl : l.stackTraces = false) {S : S9} {h : zH} (hM : RM S h) (hN : IN S) (s : Int) (hs : zin s) : zC l MX9_host [zR (some 99), zI s] h (QM S h (if ¬ isS S s then 1 else 0) (zI 0) (zI (S 28 s)) S) := by
  refine zC_of hl rfl rfl (by decide) rfl rfl (Nat.le_of_ble_eq_true rfl) ?_
  have hM : MM S h h := MM_rf hM
  have hN2 := hN
  obtain ⟨n1, n2, n3, n4, n5⟩ := hN2
  refine e_aload_n dX9_host_0 rfl rfl ?_
  refine e_iload_n dX9_host_1 rfl rfl ?_
  refine e_callV (As := [zI _]) (cb := 10) dX9_host_2 moX9_failsSession mvX9_failsSession mlX9_146 (by decide) rfl hM.1.1 rfl (Nat.le_of_ble_eq_true rfl) ⟨by decide, by decide, by decide, by decide⟩ (c_X9_failsSession hl hM.1 hN _ hs) (fun E h1 q => by cases q.1) (fun v h1 q => ?_)
  obtain ⟨e1, e2⟩ := q; cases e1; have ht := thr e2; have hM := MM_thr hM e2
  refine e_if_eq (tgt := 12) dX9_host_5 (by decide) b2_in (fun c5 => ?_) (fun c5 => ?_)
  · skip
    try simp only [b2_0, b2_n0] at c5
    refine e_aload_n dX9_host_12 rfl rfl ?_
    refine m_arr 28 dX9_host_13 flX9_83 rfl hM (by decide) ?_
    refine e_iload_n dX9_host_16 rfl rfl ?_
    refine m_ld dX9_host_17 hM (by decide) rfl (by omega) (by simp only [mL]; omega) rfl (fun r17 => ?_)
    refine e_iret dX9_host_18 rfl trivial (by decide) (by decide) ?_
    first | (exfalso; omega; done) | exact QM_no (ht.trans (b2_t (by omega))) (by first | (rw [if_pos (by omega)]; done) | (rw [if_neg (by omega), if_pos (by omega)]; done) | (rw [if_neg (by omega), if_neg (by omega), if_pos (by omega)]; done) | (rw [if_neg (by omega), if_neg (by omega), if_neg (by omega), if_pos (by omega)]; done)) (by decide) hM | exact QM_no ht (by first | (rw [if_pos (by omega)]; done) | (rw [if_neg (by omega), if_pos (by omega)]; done) | (rw [if_neg (by omega), if_neg (by omega), if_pos (by omega)]; done) | (rw [if_neg (by omega), if_neg (by omega), if_neg (by omega), if_pos (by omega)]; done)) (by decide) hM | exact QM_ok (ht.trans (b2_f (by omega))) (by first | (rw [if_neg (by omega)]; done) | (rw [if_neg (by omega), if_neg (by omega)]; done) | (rw [if_neg (by omega), if_neg (by omega), if_neg (by omega)]; done) | (rw [if_neg (by omega), if_neg (by omega), if_neg (by omega), if_neg (by omega)]; done)) rfl hM | exact QM_ok ht (by first | (rw [if_neg (by omega)]; done) | (rw [if_neg (by omega), if_neg (by omega)]; done) | (rw [if_neg (by omega), if_neg (by omega), if_neg (by omega)]; done) | (rw [if_neg (by omega), if_neg (by omega), if_neg (by omega), if_neg (by omega)]; done)) rfl hM
  · skip
    try simp only [b2_0, b2_n0] at c5
    refine e_iconst dX9_host_8 ?_
    refine e_goto (tgt := 18) dX9_host_9 (by decide) ?_
    refine e_iret dX9_host_18 rfl trivial (by decide) (by decide) ?_
    first | (exfalso; omega; done) | exact QM_no (ht.trans (b2_t (by omega))) (by first | (rw [if_pos (by omega)]; done) | (rw [if_neg (by omega), if_pos (by omega)]; done) | (rw [if_neg (by omega), if_neg (by omega), if_pos (by omega)]; done) | (rw [if_neg (by omega), if_neg (by omega), if_neg (by omega), if_pos (by omega)]; done)) (by decide) hM | exact QM_no ht (by first | (rw [if_pos (by omega)]; done) | (rw [if_neg (by omega), if_pos (by omega)]; done) | (rw [if_neg (by omega), if_neg (by omega), if_pos (by omega)]; done) | (rw [if_neg (by omega), if_neg (by omega), if_neg (by omega), if_pos (by omega)]; done)) (by decide) hM | exact QM_ok (ht.trans (b2_f (by omega))) (by first | (rw [if_neg (by omega)]; done) | (rw [if_neg (by omega), if_neg (by omega)]; done) | (rw [if_neg (by omega), if_neg (by omega), if_neg (by omega)]; done) | (rw [if_neg (by omega), if_neg (by omega), if_neg (by omega), if_neg (by omega)]; done)) rfl hM | exact QM_ok ht (by first | (rw [if_neg (by omega)]; done) | (rw [if_neg (by omega), if_neg (by omega)]; done) | (rw [if_neg (by omega), if_neg (by omega), if_neg (by omega)]; done) | (rw [if_neg (by omega), if_neg (by omega), if_neg (by omega), if_neg (by omega)]; done)) rfl hM
set_option maxHeartbeats 4000000 in
set_option maxRecDepth 100000 in
theorem c_X9_noted {l : Launch} (hl : l.stackTraces = false) {S : S9} {h : zH} (hM : RM S h) (hN : IN S) (s : Int) (hs : zin s) : zC l MX9_noted [zR (some 99), zI s] h (QM S h (if ¬ isS S s then 1 else if ¬ S 31 s = 1 then 2 else 0) (zI 0) (zI (S 33 s)) S) := by
  refine zC_of hl rfl rfl (by decide) rfl rfl (Nat.le_of_ble_eq_true rfl) ?_
  have hM : MM S h h := MM_rf hM
  have hN2 := hN
  obtain ⟨n1, n2, n3, n4, n5⟩ := hN2
  refine e_aload_n dX9_noted_0 rfl rfl ?_
  refine e_iload_n dX9_noted_1 rfl rfl ?_
  refine e_callV (As := [zI _]) (cb := 10) dX9_noted_2 moX9_failsSession mvX9_failsSession mlX9_146 (by decide) rfl hM.1.1 rfl (Nat.le_of_ble_eq_true rfl) ⟨by decide, by decide, by decide, by decide⟩ (c_X9_failsSession hl hM.1 hN _ hs) (fun E h1 q => by cases q.1) (fun v h1 q => ?_)
  obtain ⟨e1, e2⟩ := q; cases e1; have ht := thr e2; have hM := MM_thr hM e2
  refine e_if_ne (tgt := 29) dX9_noted_5 (by decide) b2_in (fun c5 => ?_) (fun c5 => ?_)
  · skip
    try simp only [b2_0, b2_n0] at c5
    refine e_iconst dX9_noted_29 ?_
    refine e_goto (tgt := 39) dX9_noted_30 (by decide) ?_
    refine e_iret dX9_noted_39 rfl trivial (by decide) (by decide) ?_
    first | (exfalso; omega; done) | exact QM_no (ht.trans (b2_t (by omega))) (by first | (rw [if_pos (by omega)]; done) | (rw [if_neg (by omega), if_pos (by omega)]; done) | (rw [if_neg (by omega), if_neg (by omega), if_pos (by omega)]; done) | (rw [if_neg (by omega), if_neg (by omega), if_neg (by omega), if_pos (by omega)]; done)) (by decide) hM | exact QM_no ht (by first | (rw [if_pos (by omega)]; done) | (rw [if_neg (by omega), if_pos (by omega)]; done) | (rw [if_neg (by omega), if_neg (by omega), if_pos (by omega)]; done) | (rw [if_neg (by omega), if_neg (by omega), if_neg (by omega), if_pos (by omega)]; done)) (by decide) hM | exact QM_ok (ht.trans (b2_f (by omega))) (by first | (rw [if_neg (by omega)]; done) | (rw [if_neg (by omega), if_neg (by omega)]; done) | (rw [if_neg (by omega), if_neg (by omega), if_neg (by omega)]; done) | (rw [if_neg (by omega), if_neg (by omega), if_neg (by omega), if_neg (by omega)]; done)) rfl hM | exact QM_ok ht (by first | (rw [if_neg (by omega)]; done) | (rw [if_neg (by omega), if_neg (by omega)]; done) | (rw [if_neg (by omega), if_neg (by omega), if_neg (by omega)]; done) | (rw [if_neg (by omega), if_neg (by omega), if_neg (by omega), if_neg (by omega)]; done)) rfl hM
  · skip
    try simp only [b2_0, b2_n0] at c5
    refine e_aload_n dX9_noted_8 rfl rfl ?_
    refine e_aload_n dX9_noted_9 rfl rfl ?_
    refine m_arr 31 dX9_noted_10 flX9_92 rfl hM (by decide) ?_
    refine e_iload_n dX9_noted_13 rfl rfl ?_
    refine m_ldz dX9_noted_14 hM (by decide) rfl (by omega) (by simp only [mL]; omega) rfl (fun r14 => ?_)
    refine e_if_eq (tgt := 22) dX9_noted_15 (by decide) (by omega) (fun c15 => ?_) (fun c15 => ?_)
    · skip
      try simp only [b2_0, b2_n0] at c15
      refine e_iconst dX9_noted_22 ?_
      refine e_callV (As := [zI _]) (cb := 10) dX9_noted_23 moX9_fails mvX9_fails mlX9_135 (by decide) rfl hM.1.1 rfl (Nat.le_of_ble_eq_true rfl) ⟨by decide, by decide, by decide, by decide⟩ (c_X9_fails hl hM.1 _ (by first | omega | exact b2_in)) (fun E h1 q => by cases q.1) (fun v h1 q => ?_)
      obtain ⟨e1, e2⟩ := q; cases e1; have ht := thr e2; have hM := MM_thr hM e2
      refine e_if_eq (tgt := 33) dX9_noted_26 (by decide) b2_in (fun c26 => ?_) (fun c26 => ?_)
      · skip
        try simp only [b2_0, b2_n0] at c26
        exfalso; omega
      · skip
        try simp only [b2_0, b2_n0] at c26
        refine e_iconst dX9_noted_29 ?_
        refine e_goto (tgt := 39) dX9_noted_30 (by decide) ?_
        refine e_iret dX9_noted_39 rfl trivial (by decide) (by decide) ?_
        first | (exfalso; omega; done) | exact QM_no (ht.trans (b2_t (by omega))) (by first | (rw [if_pos (by omega)]; done) | (rw [if_neg (by omega), if_pos (by omega)]; done) | (rw [if_neg (by omega), if_neg (by omega), if_pos (by omega)]; done) | (rw [if_neg (by omega), if_neg (by omega), if_neg (by omega), if_pos (by omega)]; done)) (by decide) hM | exact QM_no ht (by first | (rw [if_pos (by omega)]; done) | (rw [if_neg (by omega), if_pos (by omega)]; done) | (rw [if_neg (by omega), if_neg (by omega), if_pos (by omega)]; done) | (rw [if_neg (by omega), if_neg (by omega), if_neg (by omega), if_pos (by omega)]; done)) (by decide) hM | exact QM_ok (ht.trans (b2_f (by omega))) (by first | (rw [if_neg (by omega)]; done) | (rw [if_neg (by omega), if_neg (by omega)]; done) | (rw [if_neg (by omega), if_neg (by omega), if_neg (by omega)]; done) | (rw [if_neg (by omega), if_neg (by omega), if_neg (by omega), if_neg (by omega)]; done)) rfl hM | exact QM_ok ht (by first | (rw [if_neg (by omega)]; done) | (rw [if_neg (by omega), if_neg (by omega)]; done) | (rw [if_neg (by omega), if_neg (by omega), if_neg (by omega)]; done) | (rw [if_neg (by omega), if_neg (by omega), if_neg (by omega), if_neg (by omega)]; done)) rfl hM
    · skip
      try simp only [b2_0, b2_n0] at c15
      refine e_iconst dX9_noted_18 ?_
      refine e_goto (tgt := 23) dX9_noted_19 (by decide) ?_
      refine e_callV (As := [zI _]) (cb := 10) dX9_noted_23 moX9_fails mvX9_fails mlX9_135 (by decide) rfl hM.1.1 rfl (Nat.le_of_ble_eq_true rfl) ⟨by decide, by decide, by decide, by decide⟩ (c_X9_fails hl hM.1 _ (by first | omega | exact b2_in)) (fun E h1 q => by cases q.1) (fun v h1 q => ?_)
      obtain ⟨e1, e2⟩ := q; cases e1; have ht := thr e2; have hM := MM_thr hM e2
      refine e_if_eq (tgt := 33) dX9_noted_26 (by decide) b2_in (fun c26 => ?_) (fun c26 => ?_)
      · skip
        try simp only [b2_0, b2_n0] at c26
        refine e_aload_n dX9_noted_33 rfl rfl ?_
        refine m_arr 33 dX9_noted_34 flX9_98 rfl hM (by decide) ?_
        refine e_iload_n dX9_noted_37 rfl rfl ?_
        refine m_ld dX9_noted_38 hM (by decide) rfl (by omega) (by simp only [mL]; omega) rfl (fun r38 => ?_)
        refine e_iret dX9_noted_39 rfl trivial (by decide) (by decide) ?_
        first | (exfalso; omega; done) | exact QM_no (ht.trans (b2_t (by omega))) (by first | (rw [if_pos (by omega)]; done) | (rw [if_neg (by omega), if_pos (by omega)]; done) | (rw [if_neg (by omega), if_neg (by omega), if_pos (by omega)]; done) | (rw [if_neg (by omega), if_neg (by omega), if_neg (by omega), if_pos (by omega)]; done)) (by decide) hM | exact QM_no ht (by first | (rw [if_pos (by omega)]; done) | (rw [if_neg (by omega), if_pos (by omega)]; done) | (rw [if_neg (by omega), if_neg (by omega), if_pos (by omega)]; done) | (rw [if_neg (by omega), if_neg (by omega), if_neg (by omega), if_pos (by omega)]; done)) (by decide) hM | exact QM_ok (ht.trans (b2_f (by omega))) (by first | (rw [if_neg (by omega)]; done) | (rw [if_neg (by omega), if_neg (by omega)]; done) | (rw [if_neg (by omega), if_neg (by omega), if_neg (by omega)]; done) | (rw [if_neg (by omega), if_neg (by omega), if_neg (by omega), if_neg (by omega)]; done)) rfl hM | exact QM_ok ht (by first | (rw [if_neg (by omega)]; done) | (rw [if_neg (by omega), if_neg (by omega)]; done) | (rw [if_neg (by omega), if_neg (by omega), if_neg (by omega)]; done) | (rw [if_neg (by omega), if_neg (by omega), if_neg (by omega), if_neg (by omega)]; done)) rfl hM
      · skip
        try simp only [b2_0, b2_n0] at c26
        exfalso; omega
set_option maxHeartbeats 4000000 in
set_option maxRecDepth 100000 in
theorem c_X9_left {l : Launch} (hl : l.stackTraces = false) {S : S9} {h : zH} (hM : RM S h) (hJ : JJ S) (s : Int) (hs : zin s) : zC l MX9_left [zR (some 99), zI s] h (QM S h (if ¬ isS S s then 1 else if ¬ S 26 s = 1 then 2 else 0) (zI 0) (zI (cntL S s)) S) := by
  refine zC_of hl rfl rfl (by decide) rfl rfl (Nat.le_of_ble_eq_true rfl) ?_
  have hM : MM S h h := MM_rf hM
  have hN := hJ.1
  have hI := hJ.2.1
  have hO := hJ.2.2.1
  have hC := hJ.2.2.2.1
  have hK := hJ.2.2.2.2
  have hN2 := hN
  obtain ⟨n1, n2, n3, n4, n5⟩ := hN2
  refine e_aload_n dX9_left_0 rfl rfl ?_
  refine e_iload_n dX9_left_1 rfl rfl ?_
  refine e_callV (As := [zI _]) (cb := 10) dX9_left_2 moX9_failsSession mvX9_failsSession mlX9_146 (by decide) rfl hM.1.1 rfl (Nat.le_of_ble_eq_true rfl) ⟨by decide, by decide, by decide, by decide⟩ (c_X9_failsSession hl hM.1 hN _ hs) (fun E h1 q => by cases q.1) (fun v h1 q => ?_)
  obtain ⟨e1, e2⟩ := q; cases e1; have ht := thr e2; have hM := MM_thr hM e2
  refine e_if_ne (tgt := 29) dX9_left_5 (by decide) b2_in (fun c5 => ?_) (fun c5 => ?_)
  · skip
    try simp only [b2_0, b2_n0] at c5
    refine e_iconst dX9_left_29 ?_
    refine e_goto (tgt := 38) dX9_left_30 (by decide) ?_
    refine e_iret dX9_left_38 rfl trivial (by decide) (by decide) ?_
    first | (exfalso; omega; done) | exact QM_no (ht.trans (b2_t (by omega))) (by first | (rw [if_pos (by omega)]; done) | (rw [if_neg (by omega), if_pos (by omega)]; done) | (rw [if_neg (by omega), if_neg (by omega), if_pos (by omega)]; done) | (rw [if_neg (by omega), if_neg (by omega), if_neg (by omega), if_pos (by omega)]; done)) (by decide) hM | exact QM_no ht (by first | (rw [if_pos (by omega)]; done) | (rw [if_neg (by omega), if_pos (by omega)]; done) | (rw [if_neg (by omega), if_neg (by omega), if_pos (by omega)]; done) | (rw [if_neg (by omega), if_neg (by omega), if_neg (by omega), if_pos (by omega)]; done)) (by decide) hM | exact QM_ok (ht.trans (b2_f (by omega))) (by first | (rw [if_neg (by omega)]; done) | (rw [if_neg (by omega), if_neg (by omega)]; done) | (rw [if_neg (by omega), if_neg (by omega), if_neg (by omega)]; done) | (rw [if_neg (by omega), if_neg (by omega), if_neg (by omega), if_neg (by omega)]; done)) rfl hM | exact QM_ok ht (by first | (rw [if_neg (by omega)]; done) | (rw [if_neg (by omega), if_neg (by omega)]; done) | (rw [if_neg (by omega), if_neg (by omega), if_neg (by omega)]; done) | (rw [if_neg (by omega), if_neg (by omega), if_neg (by omega), if_neg (by omega)]; done)) rfl hM
  · skip
    try simp only [b2_0, b2_n0] at c5
    refine e_aload_n dX9_left_8 rfl rfl ?_
    refine e_aload_n dX9_left_9 rfl rfl ?_
    refine m_arr 26 dX9_left_10 flX9_77 rfl hM (by decide) ?_
    refine e_iload_n dX9_left_13 rfl rfl ?_
    refine m_ldz dX9_left_14 hM (by decide) rfl (by omega) (by simp only [mL]; omega) rfl (fun r14 => ?_)
    refine e_if_eq (tgt := 22) dX9_left_15 (by decide) (by omega) (fun c15 => ?_) (fun c15 => ?_)
    · skip
      try simp only [b2_0, b2_n0] at c15
      refine e_iconst dX9_left_22 ?_
      refine e_callV (As := [zI _]) (cb := 10) dX9_left_23 moX9_fails mvX9_fails mlX9_135 (by decide) rfl hM.1.1 rfl (Nat.le_of_ble_eq_true rfl) ⟨by decide, by decide, by decide, by decide⟩ (c_X9_fails hl hM.1 _ (by first | omega | exact b2_in)) (fun E h1 q => by cases q.1) (fun v h1 q => ?_)
      obtain ⟨e1, e2⟩ := q; cases e1; have ht := thr e2; have hM := MM_thr hM e2
      refine e_if_eq (tgt := 33) dX9_left_26 (by decide) b2_in (fun c26 => ?_) (fun c26 => ?_)
      · skip
        try simp only [b2_0, b2_n0] at c26
        exfalso; omega
      · skip
        try simp only [b2_0, b2_n0] at c26
        refine e_iconst dX9_left_29 ?_
        refine e_goto (tgt := 38) dX9_left_30 (by decide) ?_
        refine e_iret dX9_left_38 rfl trivial (by decide) (by decide) ?_
        first | (exfalso; omega; done) | exact QM_no (ht.trans (b2_t (by omega))) (by first | (rw [if_pos (by omega)]; done) | (rw [if_neg (by omega), if_pos (by omega)]; done) | (rw [if_neg (by omega), if_neg (by omega), if_pos (by omega)]; done) | (rw [if_neg (by omega), if_neg (by omega), if_neg (by omega), if_pos (by omega)]; done)) (by decide) hM | exact QM_no ht (by first | (rw [if_pos (by omega)]; done) | (rw [if_neg (by omega), if_pos (by omega)]; done) | (rw [if_neg (by omega), if_neg (by omega), if_pos (by omega)]; done) | (rw [if_neg (by omega), if_neg (by omega), if_neg (by omega), if_pos (by omega)]; done)) (by decide) hM | exact QM_ok (ht.trans (b2_f (by omega))) (by first | (rw [if_neg (by omega)]; done) | (rw [if_neg (by omega), if_neg (by omega)]; done) | (rw [if_neg (by omega), if_neg (by omega), if_neg (by omega)]; done) | (rw [if_neg (by omega), if_neg (by omega), if_neg (by omega), if_neg (by omega)]; done)) rfl hM | exact QM_ok ht (by first | (rw [if_neg (by omega)]; done) | (rw [if_neg (by omega), if_neg (by omega)]; done) | (rw [if_neg (by omega), if_neg (by omega), if_neg (by omega)]; done) | (rw [if_neg (by omega), if_neg (by omega), if_neg (by omega), if_neg (by omega)]; done)) rfl hM
    · skip
      try simp only [b2_0, b2_n0] at c15
      refine e_iconst dX9_left_18 ?_
      refine e_goto (tgt := 23) dX9_left_19 (by decide) ?_
      refine e_callV (As := [zI _]) (cb := 10) dX9_left_23 moX9_fails mvX9_fails mlX9_135 (by decide) rfl hM.1.1 rfl (Nat.le_of_ble_eq_true rfl) ⟨by decide, by decide, by decide, by decide⟩ (c_X9_fails hl hM.1 _ (by first | omega | exact b2_in)) (fun E h1 q => by cases q.1) (fun v h1 q => ?_)
      obtain ⟨e1, e2⟩ := q; cases e1; have ht := thr e2; have hM := MM_thr hM e2
      refine e_if_eq (tgt := 33) dX9_left_26 (by decide) b2_in (fun c26 => ?_) (fun c26 => ?_)
      · skip
        try simp only [b2_0, b2_n0] at c26
        refine e_aload_n dX9_left_33 rfl rfl ?_
        refine e_iload_n dX9_left_34 rfl rfl ?_
        refine e_callV (As := [zI _]) (cb := 10) dX9_left_35 moX9_countLeft mvX9_countLeft mlX9_264 (by decide) rfl hM.1.1 rfl (Nat.le_of_ble_eq_true rfl) ⟨by decide, by decide, by decide, by decide⟩ (c_X9_countLeft hl hM.1 hJ _ (by omega) (by omega)) (fun E h1 q => by cases q.1) (fun v h9 q => ?_)
        obtain ⟨e1, e2⟩ := q; cases e1; rw [e2]; clear e2 h9
        refine e_iret dX9_left_38 rfl trivial (by decide) (by decide) ?_
        first | (exfalso; omega; done) | exact QM_no (ht.trans (b2_t (by omega))) (by first | (rw [if_pos (by omega)]; done) | (rw [if_neg (by omega), if_pos (by omega)]; done) | (rw [if_neg (by omega), if_neg (by omega), if_pos (by omega)]; done) | (rw [if_neg (by omega), if_neg (by omega), if_neg (by omega), if_pos (by omega)]; done)) (by decide) hM | exact QM_no ht (by first | (rw [if_pos (by omega)]; done) | (rw [if_neg (by omega), if_pos (by omega)]; done) | (rw [if_neg (by omega), if_neg (by omega), if_pos (by omega)]; done) | (rw [if_neg (by omega), if_neg (by omega), if_neg (by omega), if_pos (by omega)]; done)) (by decide) hM | exact QM_ok (ht.trans (b2_f (by omega))) (by first | (rw [if_neg (by omega)]; done) | (rw [if_neg (by omega), if_neg (by omega)]; done) | (rw [if_neg (by omega), if_neg (by omega), if_neg (by omega)]; done) | (rw [if_neg (by omega), if_neg (by omega), if_neg (by omega), if_neg (by omega)]; done)) rfl hM | exact QM_ok ht (by first | (rw [if_neg (by omega)]; done) | (rw [if_neg (by omega), if_neg (by omega)]; done) | (rw [if_neg (by omega), if_neg (by omega), if_neg (by omega)]; done) | (rw [if_neg (by omega), if_neg (by omega), if_neg (by omega), if_neg (by omega)]; done)) rfl hM
      · skip
        try simp only [b2_0, b2_n0] at c26
        exfalso; omega
set_option maxHeartbeats 4000000 in
set_option maxRecDepth 100000 in
theorem c_X9_move {l : Launch} (hl : l.stackTraces = false) {S : S9} {h : zH} (hM : RM S h) (hN : IN S) (s : Int) (hs : zin s) : zC l MX9_move [zR (some 99), zI s] h (QM S h (if ¬ isS S s then 1 else if S 26 s = 1 then 2 else 0) (zI 0) (zI (b2 (0 < S 28 s))) (movgS S s)) := by
  refine zC_of hl rfl rfl (by decide) rfl rfl (Nat.le_of_ble_eq_true rfl) ?_
  have hM : MM S h h := MM_rf hM
  have hN2 := hN
  obtain ⟨n1, n2, n3, n4, n5⟩ := hN2
  refine e_aload_n dX9_move_0 rfl rfl ?_
  refine e_iload_n dX9_move_1 rfl rfl ?_
  refine e_callV (As := [zI _]) (cb := 10) dX9_move_2 moX9_failsSession mvX9_failsSession mlX9_146 (by decide) rfl hM.1.1 rfl (Nat.le_of_ble_eq_true rfl) ⟨by decide, by decide, by decide, by decide⟩ (c_X9_failsSession hl hM.1 hN _ hs) (fun E h1 q => by cases q.1) (fun v h1 q => ?_)
  obtain ⟨e1, e2⟩ := q; cases e1; have ht := thr e2; have hM := MM_thr hM e2
  refine e_if_ne (tgt := 29) dX9_move_5 (by decide) b2_in (fun c5 => ?_) (fun c5 => ?_)
  · skip
    try simp only [b2_0, b2_n0] at c5
    refine e_iconst dX9_move_29 ?_
    refine e_iret dX9_move_30 rfl (by first | exact Or.inl rfl | exact Or.inr rfl | assumption | exact b2_01) (by decide) (by decide) ?_
    first | (exfalso; omega; done) | exact QM_no (ht.trans (b2_t (by omega))) (by first | (rw [if_pos (by omega)]; done) | (rw [if_neg (by omega), if_pos (by omega)]; done) | (rw [if_neg (by omega), if_neg (by omega), if_pos (by omega)]; done) | (rw [if_neg (by omega), if_neg (by omega), if_neg (by omega), if_pos (by omega)]; done)) (by decide) hM | exact QM_no ht (by first | (rw [if_pos (by omega)]; done) | (rw [if_neg (by omega), if_pos (by omega)]; done) | (rw [if_neg (by omega), if_neg (by omega), if_pos (by omega)]; done) | (rw [if_neg (by omega), if_neg (by omega), if_neg (by omega), if_pos (by omega)]; done)) (by decide) hM | exact QM_ok (ht.trans (b2_f (by omega))) (by first | (rw [if_neg (by omega)]; done) | (rw [if_neg (by omega), if_neg (by omega)]; done) | (rw [if_neg (by omega), if_neg (by omega), if_neg (by omega)]; done) | (rw [if_neg (by omega), if_neg (by omega), if_neg (by omega), if_neg (by omega)]; done)) rfl hM | exact QM_ok ht (by first | (rw [if_neg (by omega)]; done) | (rw [if_neg (by omega), if_neg (by omega)]; done) | (rw [if_neg (by omega), if_neg (by omega), if_neg (by omega)]; done) | (rw [if_neg (by omega), if_neg (by omega), if_neg (by omega), if_neg (by omega)]; done)) rfl hM
  · skip
    try simp only [b2_0, b2_n0] at c5
    refine e_aload_n dX9_move_8 rfl rfl ?_
    refine e_aload_n dX9_move_9 rfl rfl ?_
    refine m_arr 26 dX9_move_10 flX9_77 rfl hM (by decide) ?_
    refine e_iload_n dX9_move_13 rfl rfl ?_
    refine m_ldz dX9_move_14 hM (by decide) rfl (by omega) (by simp only [mL]; omega) (by (try simp (disch := omega) only [up_f, up_i, up_eq, tkO_16, tkO_f, notI_f]); rfl) (fun r14 => ?_)
    refine e_if_eq (tgt := 22) dX9_move_15 (by decide) (by omega) (fun c15 => ?_) (fun c15 => ?_)
    · skip
      try simp only [b2_0, b2_n0] at c15
      refine e_iconst dX9_move_22 ?_
      refine e_callV (As := [zI _]) (cb := 10) dX9_move_23 moX9_fails mvX9_fails mlX9_135 (by decide) rfl hM.1.1 rfl (Nat.le_of_ble_eq_true rfl) ⟨by decide, by decide, by decide, by decide⟩ (c_X9_fails hl hM.1 _ (by first | omega | exact b2_in)) (fun E h1 q => by cases q.1) (fun v h1 q => ?_)
      obtain ⟨e1, e2⟩ := q; cases e1; have ht := thr e2; have hM := MM_thr hM e2
      refine e_if_eq (tgt := 31) dX9_move_26 (by decide) b2_in (fun c26 => ?_) (fun c26 => ?_)
      · skip
        try simp only [b2_0, b2_n0] at c26
        refine e_aload_n dX9_move_31 rfl rfl ?_
        refine m_arr 26 dX9_move_32 flX9_77 rfl hM (by decide) ?_
        refine e_iload_n dX9_move_35 rfl rfl ?_
        refine e_iconst dX9_move_36 ?_
        refine m_stz dX9_move_37 hM (by decide) rfl (by omega) (by simp only [mL]; omega) (by first | exact Or.inl rfl | exact Or.inr rfl | assumption) (fun hM => ?_)
        refine e_iconst dX9_move_38 ?_
        refine e_istore_n dX9_move_39 rfl (by decide) rfl rfl ?_
        have lp40 : ∀ (d : Nat) (r : Int) (h2 : zH), (8 - r).toNat < d → 0 ≤ r → r ≤ 8 → MM (notI (up S 26 s 1) s r) h h2 → zf h2 1000 99 = 0 → AW l MX9_move (QM S h (if ¬ isS S s then 1 else if S 26 s = 1 then 2 else 0) (zI 0) (zI (b2 (0 < S 28 s))) (movgS S s)) 0 0 40 [zR (some 99), zI s, zI r] [] h2 := by
          intro d
          induction d with
          | zero => intro r h2 hd r0 r1 hM ht; exact absurd hd (by omega)
          | succ d ih =>
            have ih40 := ih
            intro r h2 hd r0 r1 hM ht
            refine e_iload_n dX9_move_40 rfl rfl ?_
            refine e_bipush dX9_move_41 (by decide) ?_
            refine e_icmp_ge (tgt := 64) dX9_move_43 (by decide) (by omega) (by omega) (fun c43 => ?_) (fun c43 => ?_)
            · skip
              refine e_aload_n dX9_move_64 rfl rfl ?_
              refine m_arr 28 dX9_move_65 flX9_83 rfl hM (by decide) ?_
              refine e_iload_n dX9_move_68 rfl rfl ?_
              refine m_ld dX9_move_69 hM (by decide) rfl (by omega) (by simp only [mL]; omega) (by (try simp (disch := omega) only [up_f, up_i, up_eq, tkO_16, tkO_f, notI_f]); rfl) (fun r69 => ?_)
              refine e_if_le (tgt := 77) dX9_move_70 (by decide) (by omega) (fun c70 => ?_) (fun c70 => ?_)
              · skip
                refine e_iconst dX9_move_77 ?_
                refine e_iret dX9_move_78 rfl (by first | exact Or.inl rfl | exact Or.inr rfl | assumption | exact b2_01) (by decide) (by decide) ?_
                exact QM_ok ht (by first | (rw [if_neg (by omega)]; done) | (rw [if_neg (by omega), if_neg (by omega)]; done) | (rw [if_neg (by omega), if_neg (by omega), if_neg (by omega)]; done) | (rw [if_neg (by omega), if_neg (by omega), if_neg (by omega), if_neg (by omega)]; done)) (by first | (rw [b2_t (by omega)]; done) | (rw [b2_f (by omega)]; done)) (by rw [show r = 8 by omega] at hM; exact hM)
              · skip
                refine e_iconst dX9_move_73 ?_
                refine e_goto (tgt := 78) dX9_move_74 (by decide) ?_
                refine e_iret dX9_move_78 rfl (by first | exact Or.inl rfl | exact Or.inr rfl | assumption | exact b2_01) (by decide) (by decide) ?_
                exact QM_ok ht (by first | (rw [if_neg (by omega)]; done) | (rw [if_neg (by omega), if_neg (by omega)]; done) | (rw [if_neg (by omega), if_neg (by omega), if_neg (by omega)]; done) | (rw [if_neg (by omega), if_neg (by omega), if_neg (by omega), if_neg (by omega)]; done)) (by first | (rw [b2_t (by omega)]; done) | (rw [b2_f (by omega)]; done)) (by rw [show r = 8 by omega] at hM; exact hM)
            · skip
              refine e_aload_n dX9_move_46 rfl rfl ?_
              refine m_arr 29 dX9_move_47 flX9_86 rfl hM (by decide) ?_
              refine e_bipush dX9_move_50 (by decide) ?_
              refine e_iload_n dX9_move_52 rfl rfl ?_
              refine e_imul dX9_move_53 ?_
              refine e_iload_n dX9_move_54 rfl rfl ?_
              refine e_iadd dX9_move_55 ?_
              refine e_iconst dX9_move_56 ?_
              refine m_stz dX9_move_57 hM (by decide) rfl (by omega) (by simp only [mL]; omega) (by first | exact Or.inl rfl | exact Or.inr rfl | assumption) (fun hM => ?_)
              refine e_iinc dX9_move_58 (by decide) rfl rfl rfl rfl ?_
              refine e_goto (tgt := 40) dX9_move_61 (by decide) ?_
              exact ih40 _ _ (by omega) (by omega) (by omega) (MM_eq hM (fun f _ _ j => notI_s r0)) ht
        exact lp40 9 0 _ (by omega) (by omega) (by omega) (MM_eq hM (fun f _ _ j => if_neg (by omega))) ht
      · skip
        try simp only [b2_0, b2_n0] at c26
        exfalso; omega
    · skip
      try simp only [b2_0, b2_n0] at c15
      refine e_iconst dX9_move_18 ?_
      refine e_goto (tgt := 23) dX9_move_19 (by decide) ?_
      refine e_callV (As := [zI _]) (cb := 10) dX9_move_23 moX9_fails mvX9_fails mlX9_135 (by decide) rfl hM.1.1 rfl (Nat.le_of_ble_eq_true rfl) ⟨by decide, by decide, by decide, by decide⟩ (c_X9_fails hl hM.1 _ (by first | omega | exact b2_in)) (fun E h1 q => by cases q.1) (fun v h1 q => ?_)
      obtain ⟨e1, e2⟩ := q; cases e1; have ht := thr e2; have hM := MM_thr hM e2
      refine e_if_eq (tgt := 31) dX9_move_26 (by decide) b2_in (fun c26 => ?_) (fun c26 => ?_)
      · skip
        try simp only [b2_0, b2_n0] at c26
        exfalso; omega
      · skip
        try simp only [b2_0, b2_n0] at c26
        refine e_iconst dX9_move_29 ?_
        refine e_iret dX9_move_30 rfl (by first | exact Or.inl rfl | exact Or.inr rfl | assumption | exact b2_01) (by decide) (by decide) ?_
        first | (exfalso; omega; done) | exact QM_no (ht.trans (b2_t (by omega))) (by first | (rw [if_pos (by omega)]; done) | (rw [if_neg (by omega), if_pos (by omega)]; done) | (rw [if_neg (by omega), if_neg (by omega), if_pos (by omega)]; done) | (rw [if_neg (by omega), if_neg (by omega), if_neg (by omega), if_pos (by omega)]; done)) (by decide) hM | exact QM_no ht (by first | (rw [if_pos (by omega)]; done) | (rw [if_neg (by omega), if_pos (by omega)]; done) | (rw [if_neg (by omega), if_neg (by omega), if_pos (by omega)]; done) | (rw [if_neg (by omega), if_neg (by omega), if_neg (by omega), if_pos (by omega)]; done)) (by decide) hM | exact QM_ok (ht.trans (b2_f (by omega))) (by first | (rw [if_neg (by omega)]; done) | (rw [if_neg (by omega), if_neg (by omega)]; done) | (rw [if_neg (by omega), if_neg (by omega), if_neg (by omega)]; done) | (rw [if_neg (by omega), if_neg (by omega), if_neg (by omega), if_neg (by omega)]; done)) rfl hM | exact QM_ok ht (by first | (rw [if_neg (by omega)]; done) | (rw [if_neg (by omega), if_neg (by omega)]; done) | (rw [if_neg (by omega), if_neg (by omega), if_neg (by omega)]; done) | (rw [if_neg (by omega), if_neg (by omega), if_neg (by omega), if_neg (by omega)]; done)) rfl hM
set_option maxHeartbeats 4000000 in
set_option maxRecDepth 100000 in
theorem c_X9_played {l : Launch} (hl : l.stackTraces = false) {S : S9} {h : zH} (hM : RM S h) (hN : IN S) (s t x y : Int) (hs : zin s) (ht0 : zin t) (hx : zin x) (hy : zin y) (hR : ∀ s, 0 ≤ s → s < 4 → 0 ≤ S 32 s ∧ S 32 s ≤ 60) : zC l MX9_played [zR (some 99), zI s, zI t, zI x, zI y] h (QM S h (if ¬ (isS S s ∧ isXY x y) then 1 else if ¬ (1 ≤ t ∧ t ≤ S 32 s) then 2 else 0) (zI 0) (zI (S 34 ((60 * s + (t - 1)) * 96 + (y * 12 + x)))) S) := by
  refine zC_of hl rfl rfl (by decide) rfl rfl (Nat.le_of_ble_eq_true rfl) ?_
  have hM : MM S h h := MM_rf hM
  have hN2 := hN
  obtain ⟨n1, n2, n3, n4, n5⟩ := hN2
  refine e_aload_n dX9_played_0 rfl rfl ?_
  refine e_aload_n dX9_played_1 rfl rfl ?_
  refine e_iload_n dX9_played_2 rfl rfl ?_
  refine e_callV (As := [zI _]) (cb := 10) dX9_played_3 moX9_isSession mvX9_isSession mlX9_143 (by decide) rfl hM.1.1 rfl (Nat.le_of_ble_eq_true rfl) ⟨by decide, by decide, by decide, by decide⟩ (c_X9_isSession hl hM.1 hN _ hs) (fun E h1 q => by cases q.1) (fun v h9 q => ?_)
  obtain ⟨e1, e2⟩ := q; cases e1; rw [e2]; clear e2 h9
  refine e_if_eq (tgt := 22) dX9_played_6 (by decide) b2_in (fun c6 => ?_) (fun c6 => ?_)
  · skip
    try simp only [b2_0, b2_n0] at c6
    refine e_iconst dX9_played_22 ?_
    refine e_callV (As := [zI _]) (cb := 10) dX9_played_23 moX9_fails mvX9_fails mlX9_135 (by decide) rfl hM.1.1 rfl (Nat.le_of_ble_eq_true rfl) ⟨by decide, by decide, by decide, by decide⟩ (c_X9_fails hl hM.1 _ (by first | omega | exact b2_in)) (fun E h1 q => by cases q.1) (fun v h1 q => ?_)
    obtain ⟨e1, e2⟩ := q; cases e1; have ht := thr e2; have hM := MM_thr hM e2
    refine e_if_ne (tgt := 55) dX9_played_26 (by decide) b2_in (fun c26 => ?_) (fun c26 => ?_)
    · skip
      try simp only [b2_0, b2_n0] at c26
      refine e_iconst dX9_played_55 ?_
      refine e_iret dX9_played_56 rfl trivial (by decide) (by decide) ?_
      first | (exfalso; omega; done) | exact QM_no (ht.trans (b2_t (by omega))) (by first | (rw [if_pos (by omega)]; done) | (rw [if_neg (by omega), if_pos (by omega)]; done) | (rw [if_neg (by omega), if_neg (by omega), if_pos (by omega)]; done) | (rw [if_neg (by omega), if_neg (by omega), if_neg (by omega), if_pos (by omega)]; done)) (by decide) hM | exact QM_no ht (by first | (rw [if_pos (by omega)]; done) | (rw [if_neg (by omega), if_pos (by omega)]; done) | (rw [if_neg (by omega), if_neg (by omega), if_pos (by omega)]; done) | (rw [if_neg (by omega), if_neg (by omega), if_neg (by omega), if_pos (by omega)]; done)) (by decide) hM | exact QM_ok (ht.trans (b2_f (by omega))) (by first | (rw [if_neg (by omega)]; done) | (rw [if_neg (by omega), if_neg (by omega)]; done) | (rw [if_neg (by omega), if_neg (by omega), if_neg (by omega)]; done) | (rw [if_neg (by omega), if_neg (by omega), if_neg (by omega), if_neg (by omega)]; done)) rfl hM | exact QM_ok ht (by first | (rw [if_neg (by omega)]; done) | (rw [if_neg (by omega), if_neg (by omega)]; done) | (rw [if_neg (by omega), if_neg (by omega), if_neg (by omega)]; done) | (rw [if_neg (by omega), if_neg (by omega), if_neg (by omega), if_neg (by omega)]; done)) rfl hM
    · skip
      try simp only [b2_0, b2_n0] at c26
      exfalso; omega
  · skip
    try simp only [b2_0, b2_n0] at c6
    refine e_iload_n dX9_played_9 rfl rfl ?_
    refine e_iload dX9_played_10 rfl ?_
    refine e_callS (As := [zI _, zI _]) dX9_played_12 moX9_isCell msX9_isCell mlX9_171 rfl (Nat.le_of_ble_eq_true rfl) ⟨by decide, by decide, by decide, by decide⟩ (c_X9_isCell hl _ _ hx hy) (fun E h1 q => by cases q.1) (fun v h9 q => ?_)
    obtain ⟨e1, e2⟩ := q; cases e1; rw [e2]; clear e2 h9
    refine e_if_eq (tgt := 22) dX9_played_15 (by decide) b2_in (fun c15 => ?_) (fun c15 => ?_)
    · skip
      try simp only [b2_0, b2_n0] at c15
      refine e_iconst dX9_played_22 ?_
      refine e_callV (As := [zI _]) (cb := 10) dX9_played_23 moX9_fails mvX9_fails mlX9_135 (by decide) rfl hM.1.1 rfl (Nat.le_of_ble_eq_true rfl) ⟨by decide, by decide, by decide, by decide⟩ (c_X9_fails hl hM.1 _ (by first | omega | exact b2_in)) (fun E h1 q => by cases q.1) (fun v h1 q => ?_)
      obtain ⟨e1, e2⟩ := q; cases e1; have ht := thr e2; have hM := MM_thr hM e2
      refine e_if_ne (tgt := 55) dX9_played_26 (by decide) b2_in (fun c26 => ?_) (fun c26 => ?_)
      · skip
        try simp only [b2_0, b2_n0] at c26
        refine e_iconst dX9_played_55 ?_
        refine e_iret dX9_played_56 rfl trivial (by decide) (by decide) ?_
        first | (exfalso; omega; done) | exact QM_no (ht.trans (b2_t (by omega))) (by first | (rw [if_pos (by omega)]; done) | (rw [if_neg (by omega), if_pos (by omega)]; done) | (rw [if_neg (by omega), if_neg (by omega), if_pos (by omega)]; done) | (rw [if_neg (by omega), if_neg (by omega), if_neg (by omega), if_pos (by omega)]; done)) (by decide) hM | exact QM_no ht (by first | (rw [if_pos (by omega)]; done) | (rw [if_neg (by omega), if_pos (by omega)]; done) | (rw [if_neg (by omega), if_neg (by omega), if_pos (by omega)]; done) | (rw [if_neg (by omega), if_neg (by omega), if_neg (by omega), if_pos (by omega)]; done)) (by decide) hM | exact QM_ok (ht.trans (b2_f (by omega))) (by first | (rw [if_neg (by omega)]; done) | (rw [if_neg (by omega), if_neg (by omega)]; done) | (rw [if_neg (by omega), if_neg (by omega), if_neg (by omega)]; done) | (rw [if_neg (by omega), if_neg (by omega), if_neg (by omega), if_neg (by omega)]; done)) rfl hM | exact QM_ok ht (by first | (rw [if_neg (by omega)]; done) | (rw [if_neg (by omega), if_neg (by omega)]; done) | (rw [if_neg (by omega), if_neg (by omega), if_neg (by omega)]; done) | (rw [if_neg (by omega), if_neg (by omega), if_neg (by omega), if_neg (by omega)]; done)) rfl hM
      · skip
        try simp only [b2_0, b2_n0] at c26
        exfalso; omega
    · skip
      try simp only [b2_0, b2_n0] at c15
      refine e_iconst dX9_played_18 ?_
      refine e_goto (tgt := 23) dX9_played_19 (by decide) ?_
      refine e_callV (As := [zI _]) (cb := 10) dX9_played_23 moX9_fails mvX9_fails mlX9_135 (by decide) rfl hM.1.1 rfl (Nat.le_of_ble_eq_true rfl) ⟨by decide, by decide, by decide, by decide⟩ (c_X9_fails hl hM.1 _ (by first | omega | exact b2_in)) (fun E h1 q => by cases q.1) (fun v h1 q => ?_)
      obtain ⟨e1, e2⟩ := q; cases e1; have ht := thr e2; have hM := MM_thr hM e2
      refine e_if_ne (tgt := 55) dX9_played_26 (by decide) b2_in (fun c26 => ?_) (fun c26 => ?_)
      · skip
        try simp only [b2_0, b2_n0] at c26
        exfalso; omega
      · skip
        try simp only [b2_0, b2_n0] at c26
        refine e_aload_n dX9_played_29 rfl rfl ?_
        refine e_iload_n dX9_played_30 rfl rfl ?_
        refine e_iconst dX9_played_31 ?_
        refine e_aload_n dX9_played_32 rfl rfl ?_
        refine m_arr 32 dX9_played_33 flX9_95 rfl hM (by decide) ?_
        refine e_iload_n dX9_played_36 rfl rfl ?_
        have hr9 := hR s (by omega) (by omega)
        refine m_ld dX9_played_37 hM (by decide) rfl (by omega) (by simp only [mL]; omega) rfl (fun r37 => ?_)
        refine e_callS (As := [zI _, zI _, zI _]) dX9_played_38 moX9_in msX9_in mlX9_139 rfl (Nat.le_of_ble_eq_true rfl) ⟨by decide, by decide, by decide, by decide⟩ (c_X9_in hl _ _ _ (by omega) (by omega) (by omega)) (fun E h1 q => by cases q.1) (fun v h9 q => ?_)
        obtain ⟨e1, e2⟩ := q; cases e1; rw [e2]; clear e2 h9
        refine e_if_eq (tgt := 48) dX9_played_41 (by decide) b2_in (fun c41 => ?_) (fun c41 => ?_)
        · skip
          try simp only [b2_0, b2_n0] at c41
          refine e_iconst dX9_played_48 ?_
          refine e_callV (As := [zI _]) (cb := 10) dX9_played_49 moX9_fails mvX9_fails mlX9_135 (by decide) rfl hM.1.1 rfl (Nat.le_of_ble_eq_true rfl) ⟨by decide, by decide, by decide, by decide⟩ (c_X9_fails hl hM.1 _ (by first | omega | exact b2_in)) (fun E h1 q => by cases q.1) (fun v h1 q => ?_)
          obtain ⟨e1, e2⟩ := q; cases e1; have ht := thr e2; have hM := MM_thr hM e2
          refine e_if_eq (tgt := 57) dX9_played_52 (by decide) b2_in (fun c52 => ?_) (fun c52 => ?_)
          · skip
            try simp only [b2_0, b2_n0] at c52
            exfalso; omega
          · skip
            try simp only [b2_0, b2_n0] at c52
            refine e_iconst dX9_played_55 ?_
            refine e_iret dX9_played_56 rfl trivial (by decide) (by decide) ?_
            first | (exfalso; omega; done) | exact QM_no (ht.trans (b2_t (by omega))) (by first | (rw [if_pos (by omega)]; done) | (rw [if_neg (by omega), if_pos (by omega)]; done) | (rw [if_neg (by omega), if_neg (by omega), if_pos (by omega)]; done) | (rw [if_neg (by omega), if_neg (by omega), if_neg (by omega), if_pos (by omega)]; done)) (by decide) hM | exact QM_no ht (by first | (rw [if_pos (by omega)]; done) | (rw [if_neg (by omega), if_pos (by omega)]; done) | (rw [if_neg (by omega), if_neg (by omega), if_pos (by omega)]; done) | (rw [if_neg (by omega), if_neg (by omega), if_neg (by omega), if_pos (by omega)]; done)) (by decide) hM | exact QM_ok (ht.trans (b2_f (by omega))) (by first | (rw [if_neg (by omega)]; done) | (rw [if_neg (by omega), if_neg (by omega)]; done) | (rw [if_neg (by omega), if_neg (by omega), if_neg (by omega)]; done) | (rw [if_neg (by omega), if_neg (by omega), if_neg (by omega), if_neg (by omega)]; done)) rfl hM | exact QM_ok ht (by first | (rw [if_neg (by omega)]; done) | (rw [if_neg (by omega), if_neg (by omega)]; done) | (rw [if_neg (by omega), if_neg (by omega), if_neg (by omega)]; done) | (rw [if_neg (by omega), if_neg (by omega), if_neg (by omega), if_neg (by omega)]; done)) rfl hM
        · skip
          try simp only [b2_0, b2_n0] at c41
          refine e_iconst dX9_played_44 ?_
          refine e_goto (tgt := 49) dX9_played_45 (by decide) ?_
          refine e_callV (As := [zI _]) (cb := 10) dX9_played_49 moX9_fails mvX9_fails mlX9_135 (by decide) rfl hM.1.1 rfl (Nat.le_of_ble_eq_true rfl) ⟨by decide, by decide, by decide, by decide⟩ (c_X9_fails hl hM.1 _ (by first | omega | exact b2_in)) (fun E h1 q => by cases q.1) (fun v h1 q => ?_)
          obtain ⟨e1, e2⟩ := q; cases e1; have ht := thr e2; have hM := MM_thr hM e2
          refine e_if_eq (tgt := 57) dX9_played_52 (by decide) b2_in (fun c52 => ?_) (fun c52 => ?_)
          · skip
            try simp only [b2_0, b2_n0] at c52
            refine e_aload_n dX9_played_57 rfl rfl ?_
            refine e_iload_n dX9_played_58 rfl rfl ?_
            refine e_iload_n dX9_played_59 rfl rfl ?_
            refine e_iconst dX9_played_60 ?_
            refine e_isub dX9_played_61 ?_
            refine e_iload dX9_played_62 rfl ?_
            refine e_bipush dX9_played_64 (by decide) ?_
            refine e_imul dX9_played_66 ?_
            refine e_iload_n dX9_played_67 rfl rfl ?_
            refine e_iadd dX9_played_68 ?_
            refine e_callV (As := [zI _, zI _, zI _]) (cb := 10) dX9_played_69 moX9_lookOf mvX9_lookOf mlX9_267 (by decide) rfl hM.1.1 rfl (Nat.le_of_ble_eq_true rfl) ⟨by decide, by decide, by decide, by decide⟩ (c_X9_lookOf hl hM.1 _ _ _ (by omega) (by omega) (by omega) (by omega) (by omega) (by omega)) (fun E h1 q => by cases q.1) (fun v h9 q => ?_)
            obtain ⟨e1, e2⟩ := q; cases e1; rw [e2]; clear e2 h9
            refine e_iret dX9_played_72 rfl trivial (by decide) (by decide) ?_
            first | (exfalso; omega; done) | exact QM_no (ht.trans (b2_t (by omega))) (by first | (rw [if_pos (by omega)]; done) | (rw [if_neg (by omega), if_pos (by omega)]; done) | (rw [if_neg (by omega), if_neg (by omega), if_pos (by omega)]; done) | (rw [if_neg (by omega), if_neg (by omega), if_neg (by omega), if_pos (by omega)]; done)) (by decide) hM | exact QM_no ht (by first | (rw [if_pos (by omega)]; done) | (rw [if_neg (by omega), if_pos (by omega)]; done) | (rw [if_neg (by omega), if_neg (by omega), if_pos (by omega)]; done) | (rw [if_neg (by omega), if_neg (by omega), if_neg (by omega), if_pos (by omega)]; done)) (by decide) hM | exact QM_ok (ht.trans (b2_f (by omega))) (by first | (rw [if_neg (by omega)]; done) | (rw [if_neg (by omega), if_neg (by omega)]; done) | (rw [if_neg (by omega), if_neg (by omega), if_neg (by omega)]; done) | (rw [if_neg (by omega), if_neg (by omega), if_neg (by omega), if_neg (by omega)]; done)) rfl hM | exact QM_ok ht (by first | (rw [if_neg (by omega)]; done) | (rw [if_neg (by omega), if_neg (by omega)]; done) | (rw [if_neg (by omega), if_neg (by omega), if_neg (by omega)]; done) | (rw [if_neg (by omega), if_neg (by omega), if_neg (by omega), if_neg (by omega)]; done)) rfl hM
          · skip
            try simp only [b2_0, b2_n0] at c52
            exfalso; omega
set_option maxHeartbeats 4000000 in
set_option maxRecDepth 100000 in
theorem c_X9_copy {l : Launch} (hl : l.stackTraces = false) {S : S9} {h : zH} (hM : RM S h) (hN : IN S) (s t v : Int) (hs : zin s) (ht0 : zin t) (hv0 : zin v) : zC l MX9_copy [zR (some 99), zI s, zI t, zI v] h (QM S h (if ¬ isS S s then 1 else if ¬ ((0 ≤ t ∧ t ≤ 2) ∧ (0 ≤ v ∧ v ≤ 9999)) then 2 else 0) (zI 0) (zI (if S 22 s = 0 then -1 else S 23 s)) (copS S s t v)) := by
  refine zC_of hl rfl rfl (by decide) rfl rfl (Nat.le_of_ble_eq_true rfl) ?_
  have hM : MM S h h := MM_rf hM
  have hN2 := hN
  obtain ⟨n1, n2, n3, n4, n5⟩ := hN2
  refine e_aload_n dX9_copy_0 rfl rfl ?_
  refine e_iload_n dX9_copy_1 rfl rfl ?_
  refine e_callV (As := [zI _]) (cb := 10) dX9_copy_2 moX9_failsSession mvX9_failsSession mlX9_146 (by decide) rfl hM.1.1 rfl (Nat.le_of_ble_eq_true rfl) ⟨by decide, by decide, by decide, by decide⟩ (c_X9_failsSession hl hM.1 hN _ hs) (fun E h1 q => by cases q.1) (fun v h1 q => ?_)
  obtain ⟨e1, e2⟩ := q; cases e1; have ht := thr e2; have hM := MM_thr hM e2
  refine e_if_ne (tgt := 40) dX9_copy_5 (by decide) b2_in (fun c5 => ?_) (fun c5 => ?_)
  · skip
    try simp only [b2_0, b2_n0] at c5
    refine e_iconst dX9_copy_40 ?_
    refine e_iret dX9_copy_41 rfl trivial (by decide) (by decide) ?_
    first | (exfalso; omega; done) | exact QM_no (ht.trans (b2_t (by omega))) (by first | (rw [if_pos (by omega)]; done) | (rw [if_neg (by omega), if_pos (by omega)]; done) | (rw [if_neg (by omega), if_neg (by omega), if_pos (by omega)]; done) | (rw [if_neg (by omega), if_neg (by omega), if_neg (by omega), if_pos (by omega)]; done)) (by decide) hM | exact QM_no ht (by first | (rw [if_pos (by omega)]; done) | (rw [if_neg (by omega), if_pos (by omega)]; done) | (rw [if_neg (by omega), if_neg (by omega), if_pos (by omega)]; done) | (rw [if_neg (by omega), if_neg (by omega), if_neg (by omega), if_pos (by omega)]; done)) (by decide) hM | exact QM_ok (ht.trans (b2_f (by omega))) (by first | (rw [if_neg (by omega)]; done) | (rw [if_neg (by omega), if_neg (by omega)]; done) | (rw [if_neg (by omega), if_neg (by omega), if_neg (by omega)]; done) | (rw [if_neg (by omega), if_neg (by omega), if_neg (by omega), if_neg (by omega)]; done)) rfl hM | exact QM_ok ht (by first | (rw [if_neg (by omega)]; done) | (rw [if_neg (by omega), if_neg (by omega)]; done) | (rw [if_neg (by omega), if_neg (by omega), if_neg (by omega)]; done) | (rw [if_neg (by omega), if_neg (by omega), if_neg (by omega), if_neg (by omega)]; done)) rfl hM
  · skip
    try simp only [b2_0, b2_n0] at c5
    refine e_aload_n dX9_copy_8 rfl rfl ?_
    refine e_iload_n dX9_copy_9 rfl rfl ?_
    refine e_iconst dX9_copy_10 ?_
    refine e_iconst dX9_copy_11 ?_
    refine e_callS (As := [zI _, zI _, zI _]) dX9_copy_12 moX9_in msX9_in mlX9_139 rfl (Nat.le_of_ble_eq_true rfl) ⟨by decide, by decide, by decide, by decide⟩ (c_X9_in hl _ _ _ (by omega) (by omega) (by omega)) (fun E h1 q => by cases q.1) (fun v h9 q => ?_)
    obtain ⟨e1, e2⟩ := q; cases e1; rw [e2]; clear e2 h9
    refine e_if_eq (tgt := 33) dX9_copy_15 (by decide) b2_in (fun c15 => ?_) (fun c15 => ?_)
    · skip
      try simp only [b2_0, b2_n0] at c15
      refine e_iconst dX9_copy_33 ?_
      refine e_callV (As := [zI _]) (cb := 10) dX9_copy_34 moX9_fails mvX9_fails mlX9_135 (by decide) rfl hM.1.1 rfl (Nat.le_of_ble_eq_true rfl) ⟨by decide, by decide, by decide, by decide⟩ (c_X9_fails hl hM.1 _ (by first | omega | exact b2_in)) (fun E h1 q => by cases q.1) (fun v h1 q => ?_)
      obtain ⟨e1, e2⟩ := q; cases e1; have ht := thr e2; have hM := MM_thr hM e2
      refine e_if_eq (tgt := 42) dX9_copy_37 (by decide) b2_in (fun c37 => ?_) (fun c37 => ?_)
      · skip
        try simp only [b2_0, b2_n0] at c37
        exfalso; omega
      · skip
        try simp only [b2_0, b2_n0] at c37
        refine e_iconst dX9_copy_40 ?_
        refine e_iret dX9_copy_41 rfl trivial (by decide) (by decide) ?_
        first | (exfalso; omega; done) | exact QM_no (ht.trans (b2_t (by omega))) (by first | (rw [if_pos (by omega)]; done) | (rw [if_neg (by omega), if_pos (by omega)]; done) | (rw [if_neg (by omega), if_neg (by omega), if_pos (by omega)]; done) | (rw [if_neg (by omega), if_neg (by omega), if_neg (by omega), if_pos (by omega)]; done)) (by decide) hM | exact QM_no ht (by first | (rw [if_pos (by omega)]; done) | (rw [if_neg (by omega), if_pos (by omega)]; done) | (rw [if_neg (by omega), if_neg (by omega), if_pos (by omega)]; done) | (rw [if_neg (by omega), if_neg (by omega), if_neg (by omega), if_pos (by omega)]; done)) (by decide) hM | exact QM_ok (ht.trans (b2_f (by omega))) (by first | (rw [if_neg (by omega)]; done) | (rw [if_neg (by omega), if_neg (by omega)]; done) | (rw [if_neg (by omega), if_neg (by omega), if_neg (by omega)]; done) | (rw [if_neg (by omega), if_neg (by omega), if_neg (by omega), if_neg (by omega)]; done)) rfl hM | exact QM_ok ht (by first | (rw [if_neg (by omega)]; done) | (rw [if_neg (by omega), if_neg (by omega)]; done) | (rw [if_neg (by omega), if_neg (by omega), if_neg (by omega)]; done) | (rw [if_neg (by omega), if_neg (by omega), if_neg (by omega), if_neg (by omega)]; done)) rfl hM
    · skip
      try simp only [b2_0, b2_n0] at c15
      refine e_iload_n dX9_copy_18 rfl rfl ?_
      refine e_iconst dX9_copy_19 ?_
      refine e_sipush dX9_copy_20 (by decide) ?_
      refine e_callS (As := [zI _, zI _, zI _]) dX9_copy_23 moX9_in msX9_in mlX9_139 rfl (Nat.le_of_ble_eq_true rfl) ⟨by decide, by decide, by decide, by decide⟩ (c_X9_in hl _ _ _ (by omega) (by omega) (by omega)) (fun E h1 q => by cases q.1) (fun v h9 q => ?_)
      obtain ⟨e1, e2⟩ := q; cases e1; rw [e2]; clear e2 h9
      refine e_if_eq (tgt := 33) dX9_copy_26 (by decide) b2_in (fun c26 => ?_) (fun c26 => ?_)
      · skip
        try simp only [b2_0, b2_n0] at c26
        refine e_iconst dX9_copy_33 ?_
        refine e_callV (As := [zI _]) (cb := 10) dX9_copy_34 moX9_fails mvX9_fails mlX9_135 (by decide) rfl hM.1.1 rfl (Nat.le_of_ble_eq_true rfl) ⟨by decide, by decide, by decide, by decide⟩ (c_X9_fails hl hM.1 _ (by first | omega | exact b2_in)) (fun E h1 q => by cases q.1) (fun v h1 q => ?_)
        obtain ⟨e1, e2⟩ := q; cases e1; have ht := thr e2; have hM := MM_thr hM e2
        refine e_if_eq (tgt := 42) dX9_copy_37 (by decide) b2_in (fun c37 => ?_) (fun c37 => ?_)
        · skip
          try simp only [b2_0, b2_n0] at c37
          exfalso; omega
        · skip
          try simp only [b2_0, b2_n0] at c37
          refine e_iconst dX9_copy_40 ?_
          refine e_iret dX9_copy_41 rfl trivial (by decide) (by decide) ?_
          first | (exfalso; omega; done) | exact QM_no (ht.trans (b2_t (by omega))) (by first | (rw [if_pos (by omega)]; done) | (rw [if_neg (by omega), if_pos (by omega)]; done) | (rw [if_neg (by omega), if_neg (by omega), if_pos (by omega)]; done) | (rw [if_neg (by omega), if_neg (by omega), if_neg (by omega), if_pos (by omega)]; done)) (by decide) hM | exact QM_no ht (by first | (rw [if_pos (by omega)]; done) | (rw [if_neg (by omega), if_pos (by omega)]; done) | (rw [if_neg (by omega), if_neg (by omega), if_pos (by omega)]; done) | (rw [if_neg (by omega), if_neg (by omega), if_neg (by omega), if_pos (by omega)]; done)) (by decide) hM | exact QM_ok (ht.trans (b2_f (by omega))) (by first | (rw [if_neg (by omega)]; done) | (rw [if_neg (by omega), if_neg (by omega)]; done) | (rw [if_neg (by omega), if_neg (by omega), if_neg (by omega)]; done) | (rw [if_neg (by omega), if_neg (by omega), if_neg (by omega), if_neg (by omega)]; done)) rfl hM | exact QM_ok ht (by first | (rw [if_neg (by omega)]; done) | (rw [if_neg (by omega), if_neg (by omega)]; done) | (rw [if_neg (by omega), if_neg (by omega), if_neg (by omega)]; done) | (rw [if_neg (by omega), if_neg (by omega), if_neg (by omega), if_neg (by omega)]; done)) rfl hM
      · skip
        try simp only [b2_0, b2_n0] at c26
        refine e_iconst dX9_copy_29 ?_
        refine e_goto (tgt := 34) dX9_copy_30 (by decide) ?_
        refine e_callV (As := [zI _]) (cb := 10) dX9_copy_34 moX9_fails mvX9_fails mlX9_135 (by decide) rfl hM.1.1 rfl (Nat.le_of_ble_eq_true rfl) ⟨by decide, by decide, by decide, by decide⟩ (c_X9_fails hl hM.1 _ (by first | omega | exact b2_in)) (fun E h1 q => by cases q.1) (fun v h1 q => ?_)
        obtain ⟨e1, e2⟩ := q; cases e1; have ht := thr e2; have hM := MM_thr hM e2
        refine e_if_eq (tgt := 42) dX9_copy_37 (by decide) b2_in (fun c37 => ?_) (fun c37 => ?_)
        · skip
          try simp only [b2_0, b2_n0] at c37
          refine e_aload_n dX9_copy_42 rfl rfl ?_
          refine m_arr 22 dX9_copy_43 flX9_65 rfl hM (by decide) ?_
          refine e_iload_n dX9_copy_46 rfl rfl ?_
          refine m_ld dX9_copy_47 hM (by decide) rfl (by omega) (by simp only [mL]; omega) rfl (fun r47 => ?_)
          refine e_if_ne (tgt := 55) dX9_copy_48 (by decide) (by omega) (fun c48 => ?_) (fun c48 => ?_)
          · skip
            try simp only [b2_0, b2_n0] at c48
            refine e_aload_n dX9_copy_55 rfl rfl ?_
            refine m_arr 23 dX9_copy_56 flX9_68 rfl hM (by decide) ?_
            refine e_iload_n dX9_copy_59 rfl rfl ?_
            refine m_ld dX9_copy_60 hM (by decide) rfl (by omega) (by simp only [mL]; omega) rfl (fun r60 => ?_)
            obtain ⟨wa, hwa⟩ : ∃ wa : Int, wa = (if S 22 s = 0 then -1 else S 23 s) := ⟨_, rfl⟩
            first
              | rw [show (zI (-1) : zV) = zI wa by rw [hwa, if_pos (by omega)]]
              | rw [show (zI (S 23 s) : zV) = zI wa by rw [hwa, if_neg (by omega)]]
            refine e_istore dX9_copy_61 (by decide) rfl rfl ?_
            refine e_aload_n dX9_copy_63 rfl rfl ?_
            refine m_arr 22 dX9_copy_64 flX9_65 rfl hM (by decide) ?_
            refine e_iload_n dX9_copy_67 rfl rfl ?_
            refine e_iload_n dX9_copy_68 rfl rfl ?_
            refine e_iconst dX9_copy_69 ?_
            refine e_iadd dX9_copy_70 ?_
            refine m_st dX9_copy_71 hM (by decide) rfl (by omega) (by simp only [mL]; omega) (by omega) (fun hM => ?_)
            refine e_aload_n dX9_copy_72 rfl rfl ?_
            refine m_arr 23 dX9_copy_73 flX9_68 rfl hM (by decide) ?_
            refine e_iload_n dX9_copy_76 rfl rfl ?_
            refine e_iload_n dX9_copy_77 rfl rfl ?_
            refine m_st dX9_copy_78 hM (by decide) rfl (by omega) (by simp only [mL]; omega) (by omega) (fun hM => ?_)
            refine e_iconst dX9_copy_79 ?_
            refine e_istore dX9_copy_80 (by decide) rfl rfl ?_
            have lp82 : ∀ (d : Nat) (o : Int) (h2 : zH), (4 - o).toNat < d → 0 ≤ o → o ≤ 4 → MM (pasI (up (up S 22 s (t + 1)) 23 s v) s o (fun o => b2 (o = s))) h h2 → zf h2 1000 99 = 0 → AW l MX9_copy (QM S h (if ¬ isS S s then 1 else if ¬ ((0 ≤ t ∧ t ≤ 2) ∧ (0 ≤ v ∧ v ≤ 9999)) then 2 else 0) (zI 0) (zI (if S 22 s = 0 then -1 else S 23 s)) (copS S s t v)) 0 0 82 [zR (some 99), zI s, zI t, zI v, zI wa, zI o] [] h2 := by
              intro d
              induction d with
              | zero => intro o h2 hd o0 o1 hM ht; exact absurd hd (by omega)
              | succ d ih =>
                have ih82 := ih
                intro o h2 hd o0 o1 hM ht
                refine e_iload dX9_copy_82 rfl ?_
                refine e_iconst dX9_copy_84 ?_
                refine e_icmp_ge (tgt := 116) dX9_copy_85 (by decide) (by omega) (by omega) (fun c85 => ?_) (fun c85 => ?_)
                · skip
                  refine e_iload dX9_copy_116 rfl ?_
                  refine e_iret dX9_copy_118 rfl trivial (by decide) (by decide) ?_
                  exact QM_ok ht (by first | (rw [if_neg (by omega)]; done) | (rw [if_neg (by omega), if_neg (by omega)]; done) | (rw [if_neg (by omega), if_neg (by omega), if_neg (by omega)]; done) | (rw [if_neg (by omega), if_neg (by omega), if_neg (by omega), if_neg (by omega)]; done)) (by rw [hwa]) (by rw [show o = 4 by omega] at hM; exact hM)
                · skip
                  refine e_aload_n dX9_copy_88 rfl rfl ?_
                  refine m_arr 24 dX9_copy_89 flX9_71 rfl hM (by decide) ?_
                  refine e_iconst dX9_copy_92 ?_
                  refine e_iload_n dX9_copy_93 rfl rfl ?_
                  refine e_imul dX9_copy_94 ?_
                  refine e_iload dX9_copy_95 rfl ?_
                  refine e_iadd dX9_copy_97 ?_
                  refine e_iload dX9_copy_98 rfl ?_
                  refine e_iload_n dX9_copy_100 rfl rfl ?_
                  refine e_icmp_ne (tgt := 108) dX9_copy_101 (by decide) (by omega) (by omega) (fun c101 => ?_) (fun c101 => ?_)
                  · skip
                    refine e_iconst dX9_copy_108 ?_
                    refine m_stz dX9_copy_109 hM (by decide) rfl (by omega) (by simp only [mL]; omega) (by first | exact Or.inl rfl | exact Or.inr rfl | assumption) (fun hM => ?_)
                    refine e_iinc dX9_copy_110 (by decide) rfl rfl rfl rfl ?_
                    refine e_goto (tgt := 82) dX9_copy_113 (by decide) ?_
                    exact ih82 _ _ (by omega) (by omega) (by omega) (MM_eq hM (fun f _ _ j => pasI_s o0 (by first | (rw [b2_t (by omega)]; done) | (rw [b2_f (by omega)]; done)))) ht
                  · skip
                    refine e_iconst dX9_copy_104 ?_
                    refine e_goto (tgt := 109) dX9_copy_105 (by decide) ?_
                    refine m_stz dX9_copy_109 hM (by decide) rfl (by omega) (by simp only [mL]; omega) (by first | exact Or.inl rfl | exact Or.inr rfl | assumption) (fun hM => ?_)
                    refine e_iinc dX9_copy_110 (by decide) rfl rfl rfl rfl ?_
                    refine e_goto (tgt := 82) dX9_copy_113 (by decide) ?_
                    exact ih82 _ _ (by omega) (by omega) (by omega) (MM_eq hM (fun f _ _ j => pasI_s o0 (by first | (rw [b2_t (by omega)]; done) | (rw [b2_f (by omega)]; done)))) ht
            exact lp82 5 0 _ (by omega) (by omega) (by omega) (MM_eq hM (fun f _ _ j => if_neg (by omega))) ht
          · skip
            try simp only [b2_0, b2_n0] at c48
            refine e_iconst dX9_copy_51 ?_
            refine e_goto (tgt := 61) dX9_copy_52 (by decide) ?_
            obtain ⟨wa, hwa⟩ : ∃ wa : Int, wa = (if S 22 s = 0 then -1 else S 23 s) := ⟨_, rfl⟩
            first
              | rw [show (zI (-1) : zV) = zI wa by rw [hwa, if_pos (by omega)]]
              | rw [show (zI (S 23 s) : zV) = zI wa by rw [hwa, if_neg (by omega)]]
            refine e_istore dX9_copy_61 (by decide) rfl rfl ?_
            refine e_aload_n dX9_copy_63 rfl rfl ?_
            refine m_arr 22 dX9_copy_64 flX9_65 rfl hM (by decide) ?_
            refine e_iload_n dX9_copy_67 rfl rfl ?_
            refine e_iload_n dX9_copy_68 rfl rfl ?_
            refine e_iconst dX9_copy_69 ?_
            refine e_iadd dX9_copy_70 ?_
            refine m_st dX9_copy_71 hM (by decide) rfl (by omega) (by simp only [mL]; omega) (by omega) (fun hM => ?_)
            refine e_aload_n dX9_copy_72 rfl rfl ?_
            refine m_arr 23 dX9_copy_73 flX9_68 rfl hM (by decide) ?_
            refine e_iload_n dX9_copy_76 rfl rfl ?_
            refine e_iload_n dX9_copy_77 rfl rfl ?_
            refine m_st dX9_copy_78 hM (by decide) rfl (by omega) (by simp only [mL]; omega) (by omega) (fun hM => ?_)
            refine e_iconst dX9_copy_79 ?_
            refine e_istore dX9_copy_80 (by decide) rfl rfl ?_
            have lp82 : ∀ (d : Nat) (o : Int) (h2 : zH), (4 - o).toNat < d → 0 ≤ o → o ≤ 4 → MM (pasI (up (up S 22 s (t + 1)) 23 s v) s o (fun o => b2 (o = s))) h h2 → zf h2 1000 99 = 0 → AW l MX9_copy (QM S h (if ¬ isS S s then 1 else if ¬ ((0 ≤ t ∧ t ≤ 2) ∧ (0 ≤ v ∧ v ≤ 9999)) then 2 else 0) (zI 0) (zI (if S 22 s = 0 then -1 else S 23 s)) (copS S s t v)) 0 0 82 [zR (some 99), zI s, zI t, zI v, zI wa, zI o] [] h2 := by
              intro d
              induction d with
              | zero => intro o h2 hd o0 o1 hM ht; exact absurd hd (by omega)
              | succ d ih =>
                have ih82 := ih
                intro o h2 hd o0 o1 hM ht
                refine e_iload dX9_copy_82 rfl ?_
                refine e_iconst dX9_copy_84 ?_
                refine e_icmp_ge (tgt := 116) dX9_copy_85 (by decide) (by omega) (by omega) (fun c85 => ?_) (fun c85 => ?_)
                · skip
                  refine e_iload dX9_copy_116 rfl ?_
                  refine e_iret dX9_copy_118 rfl trivial (by decide) (by decide) ?_
                  exact QM_ok ht (by first | (rw [if_neg (by omega)]; done) | (rw [if_neg (by omega), if_neg (by omega)]; done) | (rw [if_neg (by omega), if_neg (by omega), if_neg (by omega)]; done) | (rw [if_neg (by omega), if_neg (by omega), if_neg (by omega), if_neg (by omega)]; done)) (by rw [hwa]) (by rw [show o = 4 by omega] at hM; exact hM)
                · skip
                  refine e_aload_n dX9_copy_88 rfl rfl ?_
                  refine m_arr 24 dX9_copy_89 flX9_71 rfl hM (by decide) ?_
                  refine e_iconst dX9_copy_92 ?_
                  refine e_iload_n dX9_copy_93 rfl rfl ?_
                  refine e_imul dX9_copy_94 ?_
                  refine e_iload dX9_copy_95 rfl ?_
                  refine e_iadd dX9_copy_97 ?_
                  refine e_iload dX9_copy_98 rfl ?_
                  refine e_iload_n dX9_copy_100 rfl rfl ?_
                  refine e_icmp_ne (tgt := 108) dX9_copy_101 (by decide) (by omega) (by omega) (fun c101 => ?_) (fun c101 => ?_)
                  · skip
                    refine e_iconst dX9_copy_108 ?_
                    refine m_stz dX9_copy_109 hM (by decide) rfl (by omega) (by simp only [mL]; omega) (by first | exact Or.inl rfl | exact Or.inr rfl | assumption) (fun hM => ?_)
                    refine e_iinc dX9_copy_110 (by decide) rfl rfl rfl rfl ?_
                    refine e_goto (tgt := 82) dX9_copy_113 (by decide) ?_
                    exact ih82 _ _ (by omega) (by omega) (by omega) (MM_eq hM (fun f _ _ j => pasI_s o0 (by first | (rw [b2_t (by omega)]; done) | (rw [b2_f (by omega)]; done)))) ht
                  · skip
                    refine e_iconst dX9_copy_104 ?_
                    refine e_goto (tgt := 109) dX9_copy_105 (by decide) ?_
                    refine m_stz dX9_copy_109 hM (by decide) rfl (by omega) (by simp only [mL]; omega) (by first | exact Or.inl rfl | exact Or.inr rfl | assumption) (fun hM => ?_)
                    refine e_iinc dX9_copy_110 (by decide) rfl rfl rfl rfl ?_
                    refine e_goto (tgt := 82) dX9_copy_113 (by decide) ?_
                    exact ih82 _ _ (by omega) (by omega) (by omega) (MM_eq hM (fun f _ _ j => pasI_s o0 (by first | (rw [b2_t (by omega)]; done) | (rw [b2_f (by omega)]; done)))) ht
            exact lp82 5 0 _ (by omega) (by omega) (by omega) (MM_eq hM (fun f _ _ j => if_neg (by omega))) ht
        · skip
          try simp only [b2_0, b2_n0] at c37
          exfalso; omega
set_option maxHeartbeats 4000000 in
set_option maxRecDepth 100000 in
theorem c_X9_right {l : Launch} (hl : l.stackTraces = false) {h : zH} (a b t : Int) : zC l MX9_right [zI a, zI b, zI t] h (fun o h' => o = .inl (some (zI ((4 * a + b) * 3 + t))) ∧ h' = h) := by
  refine zC_of hl rfl rfl (by decide) rfl rfl (Nat.le_of_ble_eq_true rfl) ?_
  refine e_iconst dX9_right_0 ?_
  refine e_iload_n dX9_right_1 rfl rfl ?_
  refine e_imul dX9_right_2 ?_
  refine e_iload_n dX9_right_3 rfl rfl ?_
  refine e_iadd dX9_right_4 ?_
  refine e_iconst dX9_right_5 ?_
  refine e_imul dX9_right_6 ?_
  refine e_iload_n dX9_right_7 rfl rfl ?_
  refine e_iadd dX9_right_8 ?_
  refine e_iret dX9_right_9 rfl trivial (by decide) (by decide) ?_
  exact ⟨zqe (by omega), rfl⟩
set_option maxHeartbeats 4000000 in
set_option maxRecDepth 100000 in
theorem c_X9_allow {l : Launch} (hl : l.stackTraces = false) {S : S9} {h : zH} (hM : RM S h) (hN : IN S) (a b t v : Int) (ha : zin a) (hb : zin b) (ht0 : zin t) (hv0 : v = 0 ∨ v = 1) : zC l MX9_allow [zR (some 99), zI a, zI b, zI t, zI v] h (QM S h (if ¬ (isS S a ∧ isS S b) then 1 else if ¬ (0 ≤ t ∧ t ≤ 2) ∨ a = b then 2 else 0) (zI 0) (zI (S 25 ((4 * a + b) * 3 + t))) (up S 25 ((4 * a + b) * 3 + t) v)) := by
  refine zC_of hl rfl rfl (by decide) rfl rfl (Nat.le_of_ble_eq_true rfl) ?_
  have hM : MM S h h := MM_rf hM
  have hN2 := hN
  obtain ⟨n1, n2, n3, n4, n5⟩ := hN2
  refine e_aload_n dX9_allow_0 rfl rfl ?_
  refine e_aload_n dX9_allow_1 rfl rfl ?_
  refine e_iload_n dX9_allow_2 rfl rfl ?_
  refine e_callV (As := [zI _]) (cb := 10) dX9_allow_3 moX9_isSession mvX9_isSession mlX9_143 (by decide) rfl hM.1.1 rfl (Nat.le_of_ble_eq_true rfl) ⟨by decide, by decide, by decide, by decide⟩ (c_X9_isSession hl hM.1 hN _ ha) (fun E h1 q => by cases q.1) (fun v h9 q => ?_)
  obtain ⟨e1, e2⟩ := q; cases e1; rw [e2]; clear e2 h9
  refine e_if_eq (tgt := 17) dX9_allow_6 (by decide) b2_in (fun c6 => ?_) (fun c6 => ?_)
  · skip
    try simp only [b2_0, b2_n0] at c6
    refine e_iconst dX9_allow_17 ?_
    refine e_goto (tgt := 40) dX9_allow_18 (by decide) ?_
    refine e_callV (As := [zI _]) (cb := 10) dX9_allow_40 moX9_fails mvX9_fails mlX9_135 (by decide) rfl hM.1.1 rfl (Nat.le_of_ble_eq_true rfl) ⟨by decide, by decide, by decide, by decide⟩ (c_X9_fails hl hM.1 _ (by first | omega | exact b2_in)) (fun E h1 q => by cases q.1) (fun v h1 q => ?_)
    obtain ⟨e1, e2⟩ := q; cases e1; have ht := thr e2; have hM := MM_thr hM e2
    refine e_if_eq (tgt := 48) dX9_allow_43 (by decide) b2_in (fun c43 => ?_) (fun c43 => ?_)
    · skip
      try simp only [b2_0, b2_n0] at c43
      exfalso; omega
    · skip
      try simp only [b2_0, b2_n0] at c43
      refine e_iconst dX9_allow_46 ?_
      refine e_iret dX9_allow_47 rfl (by first | exact Or.inl rfl | exact Or.inr rfl | assumption | exact b2_01) (by decide) (by decide) ?_
      first | (exfalso; omega; done) | exact QM_no (ht.trans (b2_t (by omega))) (by first | (rw [if_pos (by omega)]; done) | (rw [if_neg (by omega), if_pos (by omega)]; done) | (rw [if_neg (by omega), if_neg (by omega), if_pos (by omega)]; done) | (rw [if_neg (by omega), if_neg (by omega), if_neg (by omega), if_pos (by omega)]; done)) (by decide) hM | exact QM_no ht (by first | (rw [if_pos (by omega)]; done) | (rw [if_neg (by omega), if_pos (by omega)]; done) | (rw [if_neg (by omega), if_neg (by omega), if_pos (by omega)]; done) | (rw [if_neg (by omega), if_neg (by omega), if_neg (by omega), if_pos (by omega)]; done)) (by decide) hM | exact QM_ok (ht.trans (b2_f (by omega))) (by first | (rw [if_neg (by omega)]; done) | (rw [if_neg (by omega), if_neg (by omega)]; done) | (rw [if_neg (by omega), if_neg (by omega), if_neg (by omega)]; done) | (rw [if_neg (by omega), if_neg (by omega), if_neg (by omega), if_neg (by omega)]; done)) rfl hM | exact QM_ok ht (by first | (rw [if_neg (by omega)]; done) | (rw [if_neg (by omega), if_neg (by omega)]; done) | (rw [if_neg (by omega), if_neg (by omega), if_neg (by omega)]; done) | (rw [if_neg (by omega), if_neg (by omega), if_neg (by omega), if_neg (by omega)]; done)) rfl hM
  · skip
    try simp only [b2_0, b2_n0] at c6
    refine e_aload_n dX9_allow_9 rfl rfl ?_
    refine e_iload_n dX9_allow_10 rfl rfl ?_
    refine e_callV (As := [zI _]) (cb := 10) dX9_allow_11 moX9_isSession mvX9_isSession mlX9_143 (by decide) rfl hM.1.1 rfl (Nat.le_of_ble_eq_true rfl) ⟨by decide, by decide, by decide, by decide⟩ (c_X9_isSession hl hM.1 hN _ hb) (fun E h1 q => by cases q.1) (fun v h9 q => ?_)
    obtain ⟨e1, e2⟩ := q; cases e1; rw [e2]; clear e2 h9
    refine e_if_ne (tgt := 21) dX9_allow_14 (by decide) b2_in (fun c14 => ?_) (fun c14 => ?_)
    · skip
      try simp only [b2_0, b2_n0] at c14
      refine e_iload_n dX9_allow_21 rfl rfl ?_
      refine e_iconst dX9_allow_22 ?_
      refine e_iconst dX9_allow_23 ?_
      refine e_callS (As := [zI _, zI _, zI _]) dX9_allow_24 moX9_in msX9_in mlX9_139 rfl (Nat.le_of_ble_eq_true rfl) ⟨by decide, by decide, by decide, by decide⟩ (c_X9_in hl _ _ _ (by omega) (by omega) (by omega)) (fun E h1 q => by cases q.1) (fun v h9 q => ?_)
      obtain ⟨e1, e2⟩ := q; cases e1; rw [e2]; clear e2 h9
      refine e_if_eq (tgt := 35) dX9_allow_27 (by decide) b2_in (fun c27 => ?_) (fun c27 => ?_)
      · skip
        try simp only [b2_0, b2_n0] at c27
        refine e_iconst dX9_allow_35 ?_
        refine e_goto (tgt := 40) dX9_allow_36 (by decide) ?_
        refine e_callV (As := [zI _]) (cb := 10) dX9_allow_40 moX9_fails mvX9_fails mlX9_135 (by decide) rfl hM.1.1 rfl (Nat.le_of_ble_eq_true rfl) ⟨by decide, by decide, by decide, by decide⟩ (c_X9_fails hl hM.1 _ (by first | omega | exact b2_in)) (fun E h1 q => by cases q.1) (fun v h1 q => ?_)
        obtain ⟨e1, e2⟩ := q; cases e1; have ht := thr e2; have hM := MM_thr hM e2
        refine e_if_eq (tgt := 48) dX9_allow_43 (by decide) b2_in (fun c43 => ?_) (fun c43 => ?_)
        · skip
          try simp only [b2_0, b2_n0] at c43
          exfalso; omega
        · skip
          try simp only [b2_0, b2_n0] at c43
          refine e_iconst dX9_allow_46 ?_
          refine e_iret dX9_allow_47 rfl (by first | exact Or.inl rfl | exact Or.inr rfl | assumption | exact b2_01) (by decide) (by decide) ?_
          first | (exfalso; omega; done) | exact QM_no (ht.trans (b2_t (by omega))) (by first | (rw [if_pos (by omega)]; done) | (rw [if_neg (by omega), if_pos (by omega)]; done) | (rw [if_neg (by omega), if_neg (by omega), if_pos (by omega)]; done) | (rw [if_neg (by omega), if_neg (by omega), if_neg (by omega), if_pos (by omega)]; done)) (by decide) hM | exact QM_no ht (by first | (rw [if_pos (by omega)]; done) | (rw [if_neg (by omega), if_pos (by omega)]; done) | (rw [if_neg (by omega), if_neg (by omega), if_pos (by omega)]; done) | (rw [if_neg (by omega), if_neg (by omega), if_neg (by omega), if_pos (by omega)]; done)) (by decide) hM | exact QM_ok (ht.trans (b2_f (by omega))) (by first | (rw [if_neg (by omega)]; done) | (rw [if_neg (by omega), if_neg (by omega)]; done) | (rw [if_neg (by omega), if_neg (by omega), if_neg (by omega)]; done) | (rw [if_neg (by omega), if_neg (by omega), if_neg (by omega), if_neg (by omega)]; done)) rfl hM | exact QM_ok ht (by first | (rw [if_neg (by omega)]; done) | (rw [if_neg (by omega), if_neg (by omega)]; done) | (rw [if_neg (by omega), if_neg (by omega), if_neg (by omega)]; done) | (rw [if_neg (by omega), if_neg (by omega), if_neg (by omega), if_neg (by omega)]; done)) rfl hM
      · skip
        try simp only [b2_0, b2_n0] at c27
        refine e_iload_n dX9_allow_30 rfl rfl ?_
        refine e_iload_n dX9_allow_31 rfl rfl ?_
        refine e_icmp_ne (tgt := 39) dX9_allow_32 (by decide) (by omega) (by omega) (fun c32 => ?_) (fun c32 => ?_)
        · skip
          refine e_iconst dX9_allow_39 ?_
          refine e_callV (As := [zI _]) (cb := 10) dX9_allow_40 moX9_fails mvX9_fails mlX9_135 (by decide) rfl hM.1.1 rfl (Nat.le_of_ble_eq_true rfl) ⟨by decide, by decide, by decide, by decide⟩ (c_X9_fails hl hM.1 _ (by first | omega | exact b2_in)) (fun E h1 q => by cases q.1) (fun v h1 q => ?_)
          obtain ⟨e1, e2⟩ := q; cases e1; have ht := thr e2; have hM := MM_thr hM e2
          refine e_if_eq (tgt := 48) dX9_allow_43 (by decide) b2_in (fun c43 => ?_) (fun c43 => ?_)
          · skip
            try simp only [b2_0, b2_n0] at c43
            refine e_aload_n dX9_allow_48 rfl rfl ?_
            refine m_arr 25 dX9_allow_49 flX9_74 rfl hM (by decide) ?_
            refine e_iload_n dX9_allow_52 rfl rfl ?_
            refine e_iload_n dX9_allow_53 rfl rfl ?_
            refine e_iload_n dX9_allow_54 rfl rfl ?_
            refine e_callS (As := [zI _, zI _, zI _]) dX9_allow_55 moX9_right msX9_right mlX9_259 rfl (Nat.le_of_ble_eq_true rfl) ⟨by decide, by decide, by decide, by decide⟩ (c_X9_right hl _ _ _) (fun E h1 q => by cases q.1) (fun v h9 q => ?_)
            obtain ⟨e1, e2⟩ := q; cases e1; rw [e2]; clear e2 h9
            refine m_ldz dX9_allow_58 hM (by decide) rfl (by omega) (by simp only [mL]; omega) rfl (fun r58 => ?_)
            refine e_istore dX9_allow_59 (by decide) rfl rfl ?_
            refine e_aload_n dX9_allow_61 rfl rfl ?_
            refine m_arr 25 dX9_allow_62 flX9_74 rfl hM (by decide) ?_
            refine e_iload_n dX9_allow_65 rfl rfl ?_
            refine e_iload_n dX9_allow_66 rfl rfl ?_
            refine e_iload_n dX9_allow_67 rfl rfl ?_
            refine e_callS (As := [zI _, zI _, zI _]) dX9_allow_68 moX9_right msX9_right mlX9_259 rfl (Nat.le_of_ble_eq_true rfl) ⟨by decide, by decide, by decide, by decide⟩ (c_X9_right hl _ _ _) (fun E h1 q => by cases q.1) (fun v h9 q => ?_)
            obtain ⟨e1, e2⟩ := q; cases e1; rw [e2]; clear e2 h9
            refine e_iload dX9_allow_71 rfl ?_
            refine m_stz dX9_allow_73 hM (by decide) rfl (by omega) (by simp only [mL]; omega) (by first | exact Or.inl rfl | exact Or.inr rfl | assumption) (fun hM => ?_)
            refine e_iload dX9_allow_74 rfl ?_
            refine e_iret dX9_allow_76 rfl (by first | exact Or.inl rfl | exact Or.inr rfl | assumption | exact b2_01) (by decide) (by decide) ?_
            first | (exfalso; omega; done) | exact QM_no (ht.trans (b2_t (by omega))) (by first | (rw [if_pos (by omega)]; done) | (rw [if_neg (by omega), if_pos (by omega)]; done) | (rw [if_neg (by omega), if_neg (by omega), if_pos (by omega)]; done) | (rw [if_neg (by omega), if_neg (by omega), if_neg (by omega), if_pos (by omega)]; done)) (by decide) hM | exact QM_no ht (by first | (rw [if_pos (by omega)]; done) | (rw [if_neg (by omega), if_pos (by omega)]; done) | (rw [if_neg (by omega), if_neg (by omega), if_pos (by omega)]; done) | (rw [if_neg (by omega), if_neg (by omega), if_neg (by omega), if_pos (by omega)]; done)) (by decide) hM | exact QM_ok (ht.trans (b2_f (by omega))) (by first | (rw [if_neg (by omega)]; done) | (rw [if_neg (by omega), if_neg (by omega)]; done) | (rw [if_neg (by omega), if_neg (by omega), if_neg (by omega)]; done) | (rw [if_neg (by omega), if_neg (by omega), if_neg (by omega), if_neg (by omega)]; done)) rfl hM | exact QM_ok ht (by first | (rw [if_neg (by omega)]; done) | (rw [if_neg (by omega), if_neg (by omega)]; done) | (rw [if_neg (by omega), if_neg (by omega), if_neg (by omega)]; done) | (rw [if_neg (by omega), if_neg (by omega), if_neg (by omega), if_neg (by omega)]; done)) rfl hM
          · skip
            try simp only [b2_0, b2_n0] at c43
            exfalso; omega
        · skip
          refine e_iconst dX9_allow_35 ?_
          refine e_goto (tgt := 40) dX9_allow_36 (by decide) ?_
          refine e_callV (As := [zI _]) (cb := 10) dX9_allow_40 moX9_fails mvX9_fails mlX9_135 (by decide) rfl hM.1.1 rfl (Nat.le_of_ble_eq_true rfl) ⟨by decide, by decide, by decide, by decide⟩ (c_X9_fails hl hM.1 _ (by first | omega | exact b2_in)) (fun E h1 q => by cases q.1) (fun v h1 q => ?_)
          obtain ⟨e1, e2⟩ := q; cases e1; have ht := thr e2; have hM := MM_thr hM e2
          refine e_if_eq (tgt := 48) dX9_allow_43 (by decide) b2_in (fun c43 => ?_) (fun c43 => ?_)
          · skip
            try simp only [b2_0, b2_n0] at c43
            exfalso; omega
          · skip
            try simp only [b2_0, b2_n0] at c43
            refine e_iconst dX9_allow_46 ?_
            refine e_iret dX9_allow_47 rfl (by first | exact Or.inl rfl | exact Or.inr rfl | assumption | exact b2_01) (by decide) (by decide) ?_
            first | (exfalso; omega; done) | exact QM_no (ht.trans (b2_t (by omega))) (by first | (rw [if_pos (by omega)]; done) | (rw [if_neg (by omega), if_pos (by omega)]; done) | (rw [if_neg (by omega), if_neg (by omega), if_pos (by omega)]; done) | (rw [if_neg (by omega), if_neg (by omega), if_neg (by omega), if_pos (by omega)]; done)) (by decide) hM | exact QM_no ht (by first | (rw [if_pos (by omega)]; done) | (rw [if_neg (by omega), if_pos (by omega)]; done) | (rw [if_neg (by omega), if_neg (by omega), if_pos (by omega)]; done) | (rw [if_neg (by omega), if_neg (by omega), if_neg (by omega), if_pos (by omega)]; done)) (by decide) hM | exact QM_ok (ht.trans (b2_f (by omega))) (by first | (rw [if_neg (by omega)]; done) | (rw [if_neg (by omega), if_neg (by omega)]; done) | (rw [if_neg (by omega), if_neg (by omega), if_neg (by omega)]; done) | (rw [if_neg (by omega), if_neg (by omega), if_neg (by omega), if_neg (by omega)]; done)) rfl hM | exact QM_ok ht (by first | (rw [if_neg (by omega)]; done) | (rw [if_neg (by omega), if_neg (by omega)]; done) | (rw [if_neg (by omega), if_neg (by omega), if_neg (by omega)]; done) | (rw [if_neg (by omega), if_neg (by omega), if_neg (by omega), if_neg (by omega)]; done)) rfl hM
    · skip
      try simp only [b2_0, b2_n0] at c14
      refine e_iconst dX9_allow_17 ?_
      refine e_goto (tgt := 40) dX9_allow_18 (by decide) ?_
      refine e_callV (As := [zI _]) (cb := 10) dX9_allow_40 moX9_fails mvX9_fails mlX9_135 (by decide) rfl hM.1.1 rfl (Nat.le_of_ble_eq_true rfl) ⟨by decide, by decide, by decide, by decide⟩ (c_X9_fails hl hM.1 _ (by first | omega | exact b2_in)) (fun E h1 q => by cases q.1) (fun v h1 q => ?_)
      obtain ⟨e1, e2⟩ := q; cases e1; have ht := thr e2; have hM := MM_thr hM e2
      refine e_if_eq (tgt := 48) dX9_allow_43 (by decide) b2_in (fun c43 => ?_) (fun c43 => ?_)
      · skip
        try simp only [b2_0, b2_n0] at c43
        exfalso; omega
      · skip
        try simp only [b2_0, b2_n0] at c43
        refine e_iconst dX9_allow_46 ?_
        refine e_iret dX9_allow_47 rfl (by first | exact Or.inl rfl | exact Or.inr rfl | assumption | exact b2_01) (by decide) (by decide) ?_
        first | (exfalso; omega; done) | exact QM_no (ht.trans (b2_t (by omega))) (by first | (rw [if_pos (by omega)]; done) | (rw [if_neg (by omega), if_pos (by omega)]; done) | (rw [if_neg (by omega), if_neg (by omega), if_pos (by omega)]; done) | (rw [if_neg (by omega), if_neg (by omega), if_neg (by omega), if_pos (by omega)]; done)) (by decide) hM | exact QM_no ht (by first | (rw [if_pos (by omega)]; done) | (rw [if_neg (by omega), if_pos (by omega)]; done) | (rw [if_neg (by omega), if_neg (by omega), if_pos (by omega)]; done) | (rw [if_neg (by omega), if_neg (by omega), if_neg (by omega), if_pos (by omega)]; done)) (by decide) hM | exact QM_ok (ht.trans (b2_f (by omega))) (by first | (rw [if_neg (by omega)]; done) | (rw [if_neg (by omega), if_neg (by omega)]; done) | (rw [if_neg (by omega), if_neg (by omega), if_neg (by omega)]; done) | (rw [if_neg (by omega), if_neg (by omega), if_neg (by omega), if_neg (by omega)]; done)) rfl hM | exact QM_ok ht (by first | (rw [if_neg (by omega)]; done) | (rw [if_neg (by omega), if_neg (by omega)]; done) | (rw [if_neg (by omega), if_neg (by omega), if_neg (by omega)]; done) | (rw [if_neg (by omega), if_neg (by omega), if_neg (by omega), if_neg (by omega)]; done)) rfl hM
set_option maxHeartbeats 4000000 in
set_option maxRecDepth 100000 in
theorem c_X9_isConsistent {l : Launch} (hl : l.stackTraces = false) {S : S9} {h : zH} (hM : RM S h)  : zC l MX9_isConsistent [zR (some 99)] h (fun o h' => o = .inl (some (zI 1)) ∧ MM S h h' ∧ zf h' 1000 99 = 0) := by
  refine zC_of hl rfl rfl (by decide) rfl rfl (Nat.le_of_ble_eq_true rfl) ?_
  have hM : MM S h h := MM_rf hM
  refine e_aload_n dX9_isConsistent_0 rfl rfl ?_
  refine e_iconst dX9_isConsistent_1 ?_
  refine m_putX 0 dX9_isConsistent_2 flX9_128 (Or.inl rfl) trivial hM (by unfold mX; omega) (by omega) (fun hM => ?_)
  refine e_iconst dX9_isConsistent_5 ?_
  refine e_iret dX9_isConsistent_6 rfl (by first | exact Or.inl rfl | exact Or.inr rfl | assumption | exact b2_01) (by decide) (by decide) ?_
  exact ⟨rfl, hM, thr (h := h) (w := 0) rfl⟩
set_option maxHeartbeats 4000000 in
set_option maxRecDepth 100000 in
theorem c_X9_carried {l : Launch} (hl : l.stackTraces = false) {S : S9} {h : zH} (hM : RM S h)  : zC l MX9_carried [zR (some 99)] h (fun o h' => o = .inl (some (zL (S 3 0))) ∧ MM S h h' ∧ zf h' 1000 99 = 0) := by
  refine zC_of hl rfl rfl (by decide) rfl rfl (Nat.le_of_ble_eq_true rfl) ?_
  have hM : MM S h h := MM_rf hM
  refine e_aload_n dX9_carried_0 rfl rfl ?_
  refine e_iconst dX9_carried_1 ?_
  refine m_putX 0 dX9_carried_2 flX9_128 (Or.inl rfl) trivial hM (by unfold mX; omega) (by omega) (fun hM => ?_)
  refine e_aload_n dX9_carried_5 rfl rfl ?_
  refine m_getL dX9_carried_6 flX9_252 hM ?_
  refine e_lret dX9_carried_9 rfl (by decide) (by decide) ?_
  exact ⟨rfl, hM, thr (h := h) (w := 0) rfl⟩
set_option maxHeartbeats 4000000 in
set_option maxRecDepth 100000 in
theorem c_X9_thrown {l : Launch} (hl : l.stackTraces = false) {S : S9} {h : zH} (hM : RM S h)  : zC l MX9_thrown [zR (some 99)] h (fun o h' => o = .inl (some (zI (zf h 1000 99))) ∧ h' = h) := by
  refine zC_of hl rfl rfl (by decide) rfl rfl (Nat.le_of_ble_eq_true rfl) ?_
  have hM : MM S h h := MM_rf hM
  refine e_aload_n dX9_thrown_0 rfl rfl ?_
  refine m_getX 0 dX9_thrown_1 flX9_128 rfl hM rfl (fun r1 => ?_)
  refine e_iret dX9_thrown_4 rfl trivial (by decide) (by decide) ?_
  exact ⟨rfl, rfl⟩
