set_option maxHeartbeats 4000000 in
set_option maxRecDepth 100000 in
theorem c_X9_moveWindow {l : Launch} (hl : l.stackTraces = false) {S : S9} {h : zH} (hM : RM S h) (hN : IN S) (hI : IW S) (hO : IO S) (s w : Int) (hs : zin s) (hw : zin w) (x y : Int) (hx : zin x) (hy : zin y) : zC l MX9_moveWindow [zR (some 99), zI s, zI w, zI x, zI y] h (QM S h (if ¬ isWn S s w then 1 else if ¬ ((-5 ≤ x ∧ x ≤ 11) ∧ (-5 ≤ y ∧ y ≤ 7)) then 2 else 0) (zI 0) (zI (movN S (movS S (6 * s + w) x y) s)) (movS S (6 * s + w) x y)) := by
  refine zC_of hl rfl rfl (by decide) rfl rfl (Nat.le_of_ble_eq_true rfl) ?_
  have hM : MM S h h := MM_rf hM
  have hN2 := hN
  obtain ⟨n1, n2, n3, n4, n5⟩ := hN2
  refine e_aload_n dX9_moveWindow_0 rfl rfl ?_
  refine e_iload_n dX9_moveWindow_1 rfl rfl ?_
  refine e_iload_n dX9_moveWindow_2 rfl rfl ?_
  refine e_callV (As := [zI _, zI _]) (cb := 10) dX9_moveWindow_3 moX9_failsWindow mvX9_failsWindow mlX9_149 (by decide) rfl hM.1.1 rfl (Nat.le_of_ble_eq_true rfl) ⟨by decide, by decide, by decide, by decide⟩ (c_X9_failsWindow hl hM.1 hN _ _ hs hw) (fun E h1 q => by cases q.1) (fun v h1 q => ?_)
  obtain ⟨e1, e2⟩ := q; cases e1; have ht := thr e2; have hM := MM_thr hM e2
  refine e_if_ne (tgt := 44) dX9_moveWindow_6 (by decide) b2_in (fun c6 => ?_) (fun c6 => ?_)
  · skip
    try simp only [b2_0, b2_n0] at c6
    refine e_iconst dX9_moveWindow_44 ?_
    refine e_iret dX9_moveWindow_45 rfl trivial (by decide) (by decide) ?_
    first | exact QM_no (ht.trans (b2_t (by omega))) (by first | (rw [if_pos (by omega)]; done) | (rw [if_neg (by omega), if_pos (by omega)]; done) | (rw [if_neg (by omega), if_neg (by omega), if_pos (by omega)]; done) | (rw [if_neg (by omega), if_neg (by omega), if_neg (by omega), if_pos (by omega)]; done)) (by decide) hM | exact QM_no ht (by first | (rw [if_pos (by omega)]; done) | (rw [if_neg (by omega), if_pos (by omega)]; done) | (rw [if_neg (by omega), if_neg (by omega), if_pos (by omega)]; done) | (rw [if_neg (by omega), if_neg (by omega), if_neg (by omega), if_pos (by omega)]; done)) (by decide) hM
  · skip
    try simp only [b2_0, b2_n0] at c6
    refine e_aload_n dX9_moveWindow_9 rfl rfl ?_
    refine e_iload_n dX9_moveWindow_10 rfl rfl ?_
    refine e_bipush dX9_moveWindow_11 (by decide) ?_
    refine e_bipush dX9_moveWindow_13 (by decide) ?_
    have n6 := n5 s (by omega) (by omega)
    refine e_callS (As := [zI _, zI _, zI _]) dX9_moveWindow_15 moX9_in msX9_in mlX9_139 rfl (Nat.le_of_ble_eq_true rfl) ⟨by decide, by decide, by decide, by decide⟩ (c_X9_in hl _ _ _ (by omega) (by omega) (by omega)) (fun E h1 q => by cases q.1) (fun v h9 q => ?_)
    obtain ⟨e1, e2⟩ := q; cases e1; rw [e2]; clear e2 h9
    refine e_if_eq (tgt := 37) dX9_moveWindow_18 (by decide) b2_in (fun c18 => ?_) (fun c18 => ?_)
    · skip
      try simp only [b2_0, b2_n0] at c18
      refine e_iconst dX9_moveWindow_37 ?_
      refine e_callV (As := [zI _]) (cb := 10) dX9_moveWindow_38 moX9_fails mvX9_fails mlX9_135 (by decide) rfl hM.1.1 rfl (Nat.le_of_ble_eq_true rfl) ⟨by decide, by decide, by decide, by decide⟩ (c_X9_fails hl hM.1 _ (by first | omega | exact b2_in)) (fun E h1 q => by cases q.1) (fun v h1 q => ?_)
      obtain ⟨e1, e2⟩ := q; cases e1; have ht := thr e2; have hM := MM_thr hM e2
      refine e_if_eq (tgt := 46) dX9_moveWindow_41 (by decide) b2_in (fun c41 => ?_) (fun c41 => ?_)
      · skip
        try simp only [b2_0, b2_n0] at c41
        exfalso; omega
      · skip
        try simp only [b2_0, b2_n0] at c41
        refine e_iconst dX9_moveWindow_44 ?_
        refine e_iret dX9_moveWindow_45 rfl trivial (by decide) (by decide) ?_
        first | exact QM_no (ht.trans (b2_t (by omega))) (by first | (rw [if_pos (by omega)]; done) | (rw [if_neg (by omega), if_pos (by omega)]; done) | (rw [if_neg (by omega), if_neg (by omega), if_pos (by omega)]; done) | (rw [if_neg (by omega), if_neg (by omega), if_neg (by omega), if_pos (by omega)]; done)) (by decide) hM | exact QM_no ht (by first | (rw [if_pos (by omega)]; done) | (rw [if_neg (by omega), if_pos (by omega)]; done) | (rw [if_neg (by omega), if_neg (by omega), if_pos (by omega)]; done) | (rw [if_neg (by omega), if_neg (by omega), if_neg (by omega), if_pos (by omega)]; done)) (by decide) hM
    · skip
      try simp only [b2_0, b2_n0] at c18
      refine e_iload dX9_moveWindow_21 rfl ?_
      refine e_bipush dX9_moveWindow_23 (by decide) ?_
      refine e_bipush dX9_moveWindow_25 (by decide) ?_
      refine e_callS (As := [zI _, zI _, zI _]) dX9_moveWindow_27 moX9_in msX9_in mlX9_139 rfl (Nat.le_of_ble_eq_true rfl) ⟨by decide, by decide, by decide, by decide⟩ (c_X9_in hl _ _ _ (by omega) (by omega) (by omega)) (fun E h1 q => by cases q.1) (fun v h9 q => ?_)
      obtain ⟨e1, e2⟩ := q; cases e1; rw [e2]; clear e2 h9
      refine e_if_eq (tgt := 37) dX9_moveWindow_30 (by decide) b2_in (fun c30 => ?_) (fun c30 => ?_)
      · skip
        try simp only [b2_0, b2_n0] at c30
        refine e_iconst dX9_moveWindow_37 ?_
        refine e_callV (As := [zI _]) (cb := 10) dX9_moveWindow_38 moX9_fails mvX9_fails mlX9_135 (by decide) rfl hM.1.1 rfl (Nat.le_of_ble_eq_true rfl) ⟨by decide, by decide, by decide, by decide⟩ (c_X9_fails hl hM.1 _ (by first | omega | exact b2_in)) (fun E h1 q => by cases q.1) (fun v h1 q => ?_)
        obtain ⟨e1, e2⟩ := q; cases e1; have ht := thr e2; have hM := MM_thr hM e2
        refine e_if_eq (tgt := 46) dX9_moveWindow_41 (by decide) b2_in (fun c41 => ?_) (fun c41 => ?_)
        · skip
          try simp only [b2_0, b2_n0] at c41
          exfalso; omega
        · skip
          try simp only [b2_0, b2_n0] at c41
          refine e_iconst dX9_moveWindow_44 ?_
          refine e_iret dX9_moveWindow_45 rfl trivial (by decide) (by decide) ?_
          first | exact QM_no (ht.trans (b2_t (by omega))) (by first | (rw [if_pos (by omega)]; done) | (rw [if_neg (by omega), if_pos (by omega)]; done) | (rw [if_neg (by omega), if_neg (by omega), if_pos (by omega)]; done) | (rw [if_neg (by omega), if_neg (by omega), if_neg (by omega), if_pos (by omega)]; done)) (by decide) hM | exact QM_no ht (by first | (rw [if_pos (by omega)]; done) | (rw [if_neg (by omega), if_pos (by omega)]; done) | (rw [if_neg (by omega), if_neg (by omega), if_pos (by omega)]; done) | (rw [if_neg (by omega), if_neg (by omega), if_neg (by omega), if_pos (by omega)]; done)) (by decide) hM
      · skip
        try simp only [b2_0, b2_n0] at c30
        refine e_iconst dX9_moveWindow_33 ?_
        refine e_goto (tgt := 38) dX9_moveWindow_34 (by decide) ?_
        refine e_callV (As := [zI _]) (cb := 10) dX9_moveWindow_38 moX9_fails mvX9_fails mlX9_135 (by decide) rfl hM.1.1 rfl (Nat.le_of_ble_eq_true rfl) ⟨by decide, by decide, by decide, by decide⟩ (c_X9_fails hl hM.1 _ (by first | omega | exact b2_in)) (fun E h1 q => by cases q.1) (fun v h1 q => ?_)
        obtain ⟨e1, e2⟩ := q; cases e1; have ht := thr e2; have hM := MM_thr hM e2
        refine e_if_eq (tgt := 46) dX9_moveWindow_41 (by decide) b2_in (fun c41 => ?_) (fun c41 => ?_)
        · skip
          try simp only [b2_0, b2_n0] at c41
          refine e_aload_n dX9_moveWindow_46 rfl rfl ?_
          refine e_iload_n dX9_moveWindow_47 rfl rfl ?_
          refine e_callV (As := [zI _]) (cb := 10) dX9_moveWindow_48 moX9_lookAt mvX9_lookAt mlX9_167 (by decide) rfl hM.1.1 rfl (Nat.le_of_ble_eq_true rfl) ⟨by decide, by decide, by decide, by decide⟩ (c_X9_lookAt hl hM.1 hN hI hO _ (by omega) (by omega)) (fun E h1 q => by cases q.1) (fun v h1 q => ?_)
          obtain ⟨e1, hM1, hv, hz⟩ := q; cases e1; have hM := MM_tr hM hM1; have ht : zf h1 1000 99 = _ := (hz 1000).trans ht
          refine e_aload_n dX9_moveWindow_51 rfl rfl ?_
          refine m_arr 5 dX9_moveWindow_52 flX9_13 rfl hM (by decide) ?_
          refine e_bipush dX9_moveWindow_55 (by decide) ?_
          refine e_iload_n dX9_moveWindow_57 rfl rfl ?_
          refine e_imul dX9_moveWindow_58 ?_
          refine e_iload_n dX9_moveWindow_59 rfl rfl ?_
          refine e_iadd dX9_moveWindow_60 ?_
          refine e_iload_n dX9_moveWindow_61 rfl rfl ?_
          refine m_st dX9_moveWindow_62 hM (by decide) rfl (by omega) (by simp only [mL]; omega) (by omega) (fun hM => ?_)
          refine e_aload_n dX9_moveWindow_63 rfl rfl ?_
          refine m_arr 6 dX9_moveWindow_64 flX9_16 rfl hM (by decide) ?_
          refine e_bipush dX9_moveWindow_67 (by decide) ?_
          refine e_iload_n dX9_moveWindow_69 rfl rfl ?_
          refine e_imul dX9_moveWindow_70 ?_
          refine e_iload_n dX9_moveWindow_71 rfl rfl ?_
          refine e_iadd dX9_moveWindow_72 ?_
          refine e_iload dX9_moveWindow_73 rfl ?_
          refine m_st dX9_moveWindow_75 hM (by decide) rfl (by omega) (by simp only [mL]; omega) (by omega) (fun hM => ?_)
          have hN3 : IN (movS S (6 * s + w) x y) := IN_ag (fun f hf j => by unfold movS; rw [up_f (by omega), up_f (by omega)]) hN
          have hI3 : IW (movS S (6 * s + w) x y) := movS_IW hI (by omega) (by omega)
          have hO3 : IO (movS S (6 * s + w) x y) := IO_ag (fun f hf j => by unfold movS; rw [up_f (by omega), up_f (by omega)]) hO
          refine e_iconst dX9_moveWindow_76 ?_
          refine e_istore dX9_moveWindow_77 (by decide) rfl rfl ?_
          refine e_iconst dX9_moveWindow_79 ?_
          refine e_istore dX9_moveWindow_80 (by decide) rfl rfl ?_
          have lp82 : ∀ (d : Nat) (i c : Int) (h2 : zH), (96 - i).toNat < d → 0 ≤ i → i ≤ 96 → c = sg (fun p => b2 (screenAt (movS S (6 * s + w) x y) s p ≠ screenAt S s p)) i.toNat → MM (movS S (6 * s + w) x y) h h2 → (∀ p, 0 ≤ p → p < 96 → za h2 141 p = screenAt S s p) → zf h2 1000 99 = 0 → AW l MX9_moveWindow (QM S h (if ¬ isWn S s w then 1 else if ¬ ((-5 ≤ x ∧ x ≤ 11) ∧ (-5 ≤ y ∧ y ≤ 7)) then 2 else 0) (zI 0) (zI (movN S (movS S (6 * s + w) x y) s)) (movS S (6 * s + w) x y)) 0 0 82 [zR (some 99), zI s, zI w, zI x, zI y, zI c, zI i] [] h2 := by
            intro d
            induction d with
            | zero => intro i c h2 hd i0 i1 hc hM hv ht; exact absurd hd (by omega)
            | succ d ih =>
              have ih82 := ih
              intro i c h2 hd i0 i1 hc hM hv ht
              have cc := sg_in1 (f := fun p => b2 (screenAt (movS S (6 * s + w) x y) s p ≠ screenAt S s p)) (fun _ _ => b2_le) i i0
              refine e_iload dX9_moveWindow_82 rfl ?_
              refine e_bipush dX9_moveWindow_84 (by decide) ?_
              refine e_icmp_ge (tgt := 122) dX9_moveWindow_86 (by decide) (by omega) (by omega) (fun c86 => ?_) (fun c86 => ?_)
              · skip
                refine e_iload dX9_moveWindow_122 rfl ?_
                refine e_iret dX9_moveWindow_124 rfl trivial (by decide) (by decide) ?_
                exact QM_ok ht (by first | (rw [if_neg (by omega)]; done) | (rw [if_neg (by omega), if_neg (by omega)]; done) | (rw [if_neg (by omega), if_neg (by omega), if_neg (by omega)]; done) | (rw [if_neg (by omega), if_neg (by omega), if_neg (by omega), if_neg (by omega)]; done)) (by rw [hc, show i = 96 by omega]; rfl) hM
              · skip
                refine e_iload dX9_moveWindow_89 rfl ?_
                refine e_aload_n dX9_moveWindow_91 rfl rfl ?_
                refine e_iload_n dX9_moveWindow_92 rfl rfl ?_
                refine e_iload dX9_moveWindow_93 rfl ?_
                refine e_callV (As := [zI _, zI _]) (cb := 10) dX9_moveWindow_95 moX9_screenAt mvX9_screenAt mlX9_164 (by decide) rfl hM.1.1 rfl (Nat.le_of_ble_eq_true rfl) ⟨by decide, by decide, by decide, by decide⟩ (c_X9_screenAt hl hM.1 hN3 hI3 hO3 _ _ (by omega) (by omega) i0 (by omega)) (fun E h1 q => by cases q.1) (fun v h9 q => ?_)
                obtain ⟨e1, e2⟩ := q; cases e1; rw [e2]; clear e2 h9
                refine e_G (fun G => ?_)
                have rs := screen_in (s := s) (p := i) hM.1 G
                refine e_aload_n dX9_moveWindow_98 rfl rfl ?_
                refine m_arr 41 dX9_moveWindow_99 flX9_122 rfl hM (by decide) ?_
                refine e_iload dX9_moveWindow_102 rfl ?_
                refine m_ldX dX9_moveWindow_104 hM (by decide) (by omega) (by omega) (hv i i0 (by omega)) (fun r104 => ?_)
                refine e_icmp_ne (tgt := 112) dX9_moveWindow_105 (by decide) (by omega) (by omega) (fun c105 => ?_) (fun c105 => ?_)
                · skip
                  refine e_iconst dX9_moveWindow_112 ?_
                  refine e_iadd dX9_moveWindow_113 ?_
                  refine e_istore dX9_moveWindow_114 (by decide) rfl rfl ?_
                  refine e_iinc dX9_moveWindow_116 (by decide) rfl rfl rfl rfl ?_
                  refine e_goto (tgt := 82) dX9_moveWindow_119 (by decide) ?_
                  exact ih _ _ _ (by omega) (by omega) (by omega) (by rw [sg_s i0, ← hc]; first | rw [b2_t (by omega)] | rw [b2_f (by omega)]) hM hv ht
                · skip
                  refine e_iconst dX9_moveWindow_108 ?_
                  refine e_goto (tgt := 113) dX9_moveWindow_109 (by decide) ?_
                  refine e_iadd dX9_moveWindow_113 ?_
                  refine e_istore dX9_moveWindow_114 (by decide) rfl rfl ?_
                  refine e_iinc dX9_moveWindow_116 (by decide) rfl rfl rfl rfl ?_
                  refine e_goto (tgt := 82) dX9_moveWindow_119 (by decide) ?_
                  exact ih _ _ _ (by omega) (by omega) (by omega) (by rw [sg_s i0, ← hc]; first | rw [b2_t (by omega)] | rw [b2_f (by omega)]) hM hv ht
          exact lp82 97 _ _ _ (by omega) (by omega) (by omega) rfl hM hv ht
        · skip
          try simp only [b2_0, b2_n0] at c41
          exfalso; omega
set_option maxHeartbeats 4000000 in
set_option maxRecDepth 100000 in
theorem c_X9_draw {l : Launch} (hl : l.stackTraces = false) {S : S9} {h : zH} (hM : RM S h) (hN : IN S) (hI : IW S) (hO : IO S) (s w : Int) (hs : zin s) (hw : zin w) (x y a b c : Int) (hx : zin x) (hy : zin y) (ha : zin a) (hb : zin b) (hc : zin c) : zC l MX9_draw [zR (some 99), zI s, zI w, zI x, zI y, zI a, zI b, zI c] h (QM S h (if ¬ isWn S s w then 1 else if ¬ (isXY x y ∧ (1 ≤ a ∧ a ≤ 12) ∧ (1 ≤ b ∧ b ≤ 8) ∧ (0 ≤ c ∧ c ≤ 255)) then 2 else 0) (zI 0) (zI (drawN S (6 * s + w) x y a b c)) (drawS S (6 * s + w) x y a b c)) := by
  refine zC_of hl rfl rfl (by decide) rfl rfl (Nat.le_of_ble_eq_true rfl) ?_
  have hM : MM S h h := MM_rf hM
  have hN2 := hN
  obtain ⟨n1, n2, n3, n4, n5⟩ := hN2
  have j60 : AW l MX9_draw (QM S h (if ¬ isWn S s w then 1 else if ¬ (isXY x y ∧ (1 ≤ a ∧ a ≤ 12) ∧ (1 ≤ b ∧ b ≤ 8) ∧ (0 ≤ c ∧ c ≤ 255)) then 2 else 0) (zI 0) (zI (drawN S (6 * s + w) x y a b c)) (drawS S (6 * s + w) x y a b c)) 0 0 60 [zR (some 99), zI s, zI w, zI x, zI y, zI a, zI b, zI c, zX, zX, zX, zX] [zI (b2 (isXY x y ∧ (1 ≤ a ∧ a ≤ 12) ∧ (1 ≤ b ∧ b ≤ 8) ∧ (0 ≤ c ∧ c ≤ 255)))] h := by
    refine e_istore dX9_draw_60 (by decide) rfl rfl ?_
    refine e_aload_n dX9_draw_62 rfl rfl ?_
    refine e_iload_n dX9_draw_63 rfl rfl ?_
    refine e_iload_n dX9_draw_64 rfl rfl ?_
    refine e_callV (As := [zI _, zI _]) (cb := 10) dX9_draw_65 moX9_failsWindow mvX9_failsWindow mlX9_149 (by decide) rfl hM.1.1 rfl (Nat.le_of_ble_eq_true rfl) ⟨by decide, by decide, by decide, by decide⟩ (c_X9_failsWindow hl hM.1 hN _ _ hs hw) (fun E h1 q => by cases q.1) (fun v h1 q => ?_)
    obtain ⟨e1, e2⟩ := q; cases e1; have ht := thr e2; have hM := MM_thr hM e2
    refine e_if_ne (tgt := 88) dX9_draw_68 (by decide) b2_in (fun c68 => ?_) (fun c68 => ?_)
    · skip
      try simp only [b2_0, b2_n0] at c68
      refine e_iconst dX9_draw_88 ?_
      refine e_iret dX9_draw_89 rfl trivial (by decide) (by decide) ?_
      first | exact QM_no (ht.trans (b2_t (by omega))) (by first | (rw [if_pos (by omega)]; done) | (rw [if_neg (by omega), if_pos (by omega)]; done) | (rw [if_neg (by omega), if_neg (by omega), if_pos (by omega)]; done) | (rw [if_neg (by omega), if_neg (by omega), if_neg (by omega), if_pos (by omega)]; done)) (by decide) hM | exact QM_no ht (by first | (rw [if_pos (by omega)]; done) | (rw [if_neg (by omega), if_pos (by omega)]; done) | (rw [if_neg (by omega), if_neg (by omega), if_pos (by omega)]; done) | (rw [if_neg (by omega), if_neg (by omega), if_neg (by omega), if_pos (by omega)]; done)) (by decide) hM
    · skip
      try simp only [b2_0, b2_n0] at c68
      refine e_aload_n dX9_draw_71 rfl rfl ?_
      refine e_iload dX9_draw_72 rfl ?_
      refine e_if_eq (tgt := 81) dX9_draw_74 (by decide) b2_in (fun c74 => ?_) (fun c74 => ?_)
      · skip
        try simp only [b2_0, b2_n0] at c74
        refine e_iconst dX9_draw_81 ?_
        refine e_callV (As := [zI _]) (cb := 10) dX9_draw_82 moX9_fails mvX9_fails mlX9_135 (by decide) rfl hM.1.1 rfl (Nat.le_of_ble_eq_true rfl) ⟨by decide, by decide, by decide, by decide⟩ (c_X9_fails hl hM.1 _ (by first | omega | exact b2_in)) (fun E h1 q => by cases q.1) (fun v h1 q => ?_)
        obtain ⟨e1, e2⟩ := q; cases e1; have ht := thr e2; have hM := MM_thr hM e2
        refine e_if_eq (tgt := 90) dX9_draw_85 (by decide) b2_in (fun c85 => ?_) (fun c85 => ?_)
        · skip
          try simp only [b2_0, b2_n0] at c85
          exfalso; omega
        · skip
          try simp only [b2_0, b2_n0] at c85
          refine e_iconst dX9_draw_88 ?_
          refine e_iret dX9_draw_89 rfl trivial (by decide) (by decide) ?_
          first | exact QM_no (ht.trans (b2_t (by omega))) (by first | (rw [if_pos (by omega)]; done) | (rw [if_neg (by omega), if_pos (by omega)]; done) | (rw [if_neg (by omega), if_neg (by omega), if_pos (by omega)]; done) | (rw [if_neg (by omega), if_neg (by omega), if_neg (by omega), if_pos (by omega)]; done)) (by decide) hM | exact QM_no ht (by first | (rw [if_pos (by omega)]; done) | (rw [if_neg (by omega), if_pos (by omega)]; done) | (rw [if_neg (by omega), if_neg (by omega), if_pos (by omega)]; done) | (rw [if_neg (by omega), if_neg (by omega), if_neg (by omega), if_pos (by omega)]; done)) (by decide) hM
      · skip
        try simp only [b2_0, b2_n0] at c74
        refine e_iconst dX9_draw_77 ?_
        refine e_goto (tgt := 82) dX9_draw_78 (by decide) ?_
        refine e_callV (As := [zI _]) (cb := 10) dX9_draw_82 moX9_fails mvX9_fails mlX9_135 (by decide) rfl hM.1.1 rfl (Nat.le_of_ble_eq_true rfl) ⟨by decide, by decide, by decide, by decide⟩ (c_X9_fails hl hM.1 _ (by first | omega | exact b2_in)) (fun E h1 q => by cases q.1) (fun v h1 q => ?_)
        obtain ⟨e1, e2⟩ := q; cases e1; have ht := thr e2; have hM := MM_thr hM e2
        refine e_if_eq (tgt := 90) dX9_draw_85 (by decide) b2_in (fun c85 => ?_) (fun c85 => ?_)
        · skip
          try simp only [b2_0, b2_n0] at c85
          refine e_bipush dX9_draw_90 (by decide) ?_
          refine e_iload_n dX9_draw_92 rfl rfl ?_
          have n6 := n5 s (by omega) (by omega)
          have w1 := hI s (6 * s + w) (by omega)
          obtain ⟨w1, w2, w3, w4, w5, w6, w7, w8, w9, w10⟩ := w1
          have wa := area_le w5 w6 w7 w8
          refine e_imul dX9_draw_93 ?_
          refine e_iload_n dX9_draw_94 rfl rfl ?_
          refine e_iadd dX9_draw_95 ?_
          refine e_istore dX9_draw_96 (by decide) rfl rfl ?_
          refine e_iconst dX9_draw_98 ?_
          refine e_istore dX9_draw_99 (by decide) rfl rfl ?_
          refine e_iconst dX9_draw_101 ?_
          refine e_istore dX9_draw_102 (by decide) rfl rfl ?_
          have lp104 : ∀ (d : Nat) (k m : Int) (h2 : zH), (S 7 (6 * s + w) * S 8 (6 * s + w) - k).toNat < d → 0 ≤ k → k ≤ S 7 (6 * s + w) * S 8 (6 * s + w) → m = sg (fun k => b2 (inR (S 7 (6 * s + w)) x y a b k ∧ S 14 (96 * (6 * s + w) + k) ≠ c)) k.toNat → MM (drawI S (6 * s + w) x y a b c k) h h2 → zf h2 1000 99 = 0 → AW l MX9_draw (QM S h (if ¬ isWn S s w then 1 else if ¬ (isXY x y ∧ (1 ≤ a ∧ a ≤ 12) ∧ (1 ≤ b ∧ b ≤ 8) ∧ (0 ≤ c ∧ c ≤ 255)) then 2 else 0) (zI 0) (zI (drawN S (6 * s + w) x y a b c)) (drawS S (6 * s + w) x y a b c)) 0 0 104 [zR (some 99), zI s, zI w, zI x, zI y, zI a, zI b, zI c, zI (b2 (isXY x y ∧ (1 ≤ a ∧ a ≤ 12) ∧ (1 ≤ b ∧ b ≤ 8) ∧ (0 ≤ c ∧ c ≤ 255))), zI (6 * s + w), zI m, zI k] [] h2 := by
            intro d
            induction d with
            | zero => intro k m h2 hd k0 k1 hm hM ht; exact absurd hd (by omega)
            | succ d ih =>
              have ih104 := ih
              intro k m h2 hd k0 k1 hm hM ht
              have cc := sg_in1 (f := fun k => b2 (inR (S 7 (6 * s + w)) x y a b k ∧ S 14 (96 * (6 * s + w) + k) ≠ c)) (fun _ _ => b2_le) k k0
              have d7 : drawI S (6 * s + w) x y a b c k 7 (6 * s + w) = S 7 (6 * s + w) := if_neg (by omega)
              have d8 : drawI S (6 * s + w) x y a b c k 8 (6 * s + w) = S 8 (6 * s + w) := if_neg (by omega)
              have d14 : drawI S (6 * s + w) x y a b c k 14 (96 * (6 * s + w) + k) = S 14 (96 * (6 * s + w) + k) := if_neg (by omega)
              have g1 : 0 ≤ k % S 7 (6 * s + w) := Int.emod_nonneg _ (by omega)
              have g2 : k % S 7 (6 * s + w) < S 7 (6 * s + w) := Int.emod_lt_of_pos _ (by omega)
              have g3 : 0 ≤ k / S 7 (6 * s + w) := Int.ediv_nonneg k0 (by omega)
              have g4 : k / S 7 (6 * s + w) ≤ k := Int.ediv_le_self _ k0
              refine e_iload dX9_draw_104 rfl ?_
              refine e_aload_n dX9_draw_106 rfl rfl ?_
              refine m_arr 7 dX9_draw_107 flX9_19 rfl hM (by decide) ?_
              refine e_iload dX9_draw_110 rfl ?_
              refine m_ld dX9_draw_112 hM (by decide) rfl (by omega) (by simp only [mL]; omega) d7 (fun r112 => ?_)
              refine e_aload_n dX9_draw_113 rfl rfl ?_
              refine m_arr 8 dX9_draw_114 flX9_22 rfl hM (by decide) ?_
              refine e_iload dX9_draw_117 rfl ?_
              refine m_ld dX9_draw_119 hM (by decide) rfl (by omega) (by simp only [mL]; omega) d8 (fun r119 => ?_)
              refine e_imul dX9_draw_120 ?_
              refine e_icmp_ge (tgt := 221) dX9_draw_121 (by decide) (by omega) (by omega) (fun c121 => ?_) (fun c121 => ?_)
              · skip
                refine e_iload dX9_draw_221 rfl ?_
                refine e_iret dX9_draw_223 rfl trivial (by decide) (by decide) ?_
                exact QM_ok ht (by first | (rw [if_neg (by omega)]; done) | (rw [if_neg (by omega), if_neg (by omega)]; done) | (rw [if_neg (by omega), if_neg (by omega), if_neg (by omega)]; done) | (rw [if_neg (by omega), if_neg (by omega), if_neg (by omega), if_neg (by omega)]; done)) (by rw [hm, show k = S 7 (6 * s + w) * S 8 (6 * s + w) by omega]; rfl) (by rw [show k = S 7 (6 * s + w) * S 8 (6 * s + w) by omega] at hM; exact hM)
              · skip
                refine e_iload dX9_draw_124 rfl ?_
                refine e_aload_n dX9_draw_126 rfl rfl ?_
                refine m_arr 7 dX9_draw_127 flX9_19 rfl hM (by decide) ?_
                refine e_iload dX9_draw_130 rfl ?_
                refine m_ld dX9_draw_132 hM (by decide) rfl (by omega) (by simp only [mL]; omega) d7 (fun r132 => ?_)
                refine e_irem dX9_draw_133 (by omega) (by omega) (by omega) (by omega) ?_
                refine e_iload_n dX9_draw_134 rfl rfl ?_
                refine e_iload_n dX9_draw_135 rfl rfl ?_
                refine e_iload dX9_draw_136 rfl ?_
                refine e_iadd dX9_draw_138 ?_
                refine e_iconst dX9_draw_139 ?_
                refine e_isub dX9_draw_140 ?_
                refine e_callS (As := [zI _, zI _, zI _]) dX9_draw_141 moX9_in msX9_in mlX9_139 rfl (Nat.le_of_ble_eq_true rfl) ⟨by decide, by decide, by decide, by decide⟩ (c_X9_in hl _ _ _ (by omega) (by omega) (by omega)) (fun E h1 q => by cases q.1) (fun v h9 q => ?_)
                obtain ⟨e1, e2⟩ := q; cases e1; rw [e2]; clear e2 h9
                refine e_if_eq (tgt := 215) dX9_draw_144 (by decide) b2_in (fun c144 => ?_) (fun c144 => ?_)
                · skip
                  try simp only [b2_0, b2_n0] at c144
                  refine e_iinc dX9_draw_215 (by decide) rfl rfl rfl rfl ?_
                  refine e_goto (tgt := 104) dX9_draw_218 (by decide) ?_
                  refine ih _ _ _ (by omega) (by omega) (by omega) (by rw [sg_s k0, ← hm]; first | rw [b2_t (by omega)] | rw [b2_f (by omega), Int.add_zero]) (MM_eq hM (fun f _ _ j => ?_)) ht
                  first | exact drawI_st (by omega) | exact drawI_no (by omega)
                · skip
                  try simp only [b2_0, b2_n0] at c144
                  refine e_iload dX9_draw_147 rfl ?_
                  refine e_aload_n dX9_draw_149 rfl rfl ?_
                  refine m_arr 7 dX9_draw_150 flX9_19 rfl hM (by decide) ?_
                  refine e_iload dX9_draw_153 rfl ?_
                  refine m_ld dX9_draw_155 hM (by decide) rfl (by omega) (by simp only [mL]; omega) d7 (fun r155 => ?_)
                  refine e_idiv dX9_draw_156 (by omega) (by omega) (by omega) (by omega) ?_
                  refine e_iload dX9_draw_157 rfl ?_
                  refine e_iload dX9_draw_159 rfl ?_
                  refine e_iload dX9_draw_161 rfl ?_
                  refine e_iadd dX9_draw_163 ?_
                  refine e_iconst dX9_draw_164 ?_
                  refine e_isub dX9_draw_165 ?_
                  refine e_callS (As := [zI _, zI _, zI _]) dX9_draw_166 moX9_in msX9_in mlX9_139 rfl (Nat.le_of_ble_eq_true rfl) ⟨by decide, by decide, by decide, by decide⟩ (c_X9_in hl _ _ _ (by omega) (by omega) (by omega)) (fun E h1 q => by cases q.1) (fun v h9 q => ?_)
                  obtain ⟨e1, e2⟩ := q; cases e1; rw [e2]; clear e2 h9
                  refine e_if_eq (tgt := 215) dX9_draw_169 (by decide) b2_in (fun c169 => ?_) (fun c169 => ?_)
                  · skip
                    try simp only [b2_0, b2_n0] at c169
                    refine e_iinc dX9_draw_215 (by decide) rfl rfl rfl rfl ?_
                    refine e_goto (tgt := 104) dX9_draw_218 (by decide) ?_
                    refine ih _ _ _ (by omega) (by omega) (by omega) (by rw [sg_s k0, ← hm]; first | rw [b2_t (by omega)] | rw [b2_f (by omega), Int.add_zero]) (MM_eq hM (fun f _ _ j => ?_)) ht
                    first | exact drawI_st (by omega) | exact drawI_no (by omega)
                  · skip
                    try simp only [b2_0, b2_n0] at c169
                    refine e_iload dX9_draw_172 rfl ?_
                    refine e_aload_n dX9_draw_174 rfl rfl ?_
                    refine m_arr 14 dX9_draw_175 flX9_41 rfl hM (by decide) ?_
                    refine e_bipush dX9_draw_178 (by decide) ?_
                    refine e_iload dX9_draw_180 rfl ?_
                    refine e_imul dX9_draw_182 ?_
                    refine e_iload dX9_draw_183 rfl ?_
                    refine e_iadd dX9_draw_185 ?_
                    refine m_ld dX9_draw_186 hM (by decide) rfl (by omega) (by simp only [mL]; omega) d14 (fun r186 => ?_)
                    refine e_iload dX9_draw_187 rfl ?_
                    refine e_icmp_ne (tgt := 196) dX9_draw_189 (by decide) (by omega) (by omega) (fun c189 => ?_) (fun c189 => ?_)
                    · skip
                      refine e_iconst dX9_draw_196 ?_
                      refine e_iadd dX9_draw_197 ?_
                      refine e_istore dX9_draw_198 (by decide) rfl rfl ?_
                      refine e_aload_n dX9_draw_200 rfl rfl ?_
                      refine m_arr 14 dX9_draw_201 flX9_41 rfl hM (by decide) ?_
                      refine e_bipush dX9_draw_204 (by decide) ?_
                      refine e_iload dX9_draw_206 rfl ?_
                      refine e_imul dX9_draw_208 ?_
                      refine e_iload dX9_draw_209 rfl ?_
                      refine e_iadd dX9_draw_211 ?_
                      refine e_iload dX9_draw_212 rfl ?_
                      refine m_st dX9_draw_214 hM (by decide) rfl (by omega) (by simp only [mL]; omega) (by omega) (fun hM => ?_)
                      refine e_iinc dX9_draw_215 (by decide) rfl rfl rfl rfl ?_
                      refine e_goto (tgt := 104) dX9_draw_218 (by decide) ?_
                      refine ih _ _ _ (by omega) (by omega) (by omega) (by rw [sg_s k0, ← hm]; first | rw [b2_t (by omega)] | rw [b2_f (by omega), Int.add_zero]) (MM_eq hM (fun f _ _ j => ?_)) ht
                      first | exact drawI_st (by omega) | exact drawI_no (by omega)
                    · skip
                      refine e_iconst dX9_draw_192 ?_
                      refine e_goto (tgt := 197) dX9_draw_193 (by decide) ?_
                      refine e_iadd dX9_draw_197 ?_
                      refine e_istore dX9_draw_198 (by decide) rfl rfl ?_
                      refine e_aload_n dX9_draw_200 rfl rfl ?_
                      refine m_arr 14 dX9_draw_201 flX9_41 rfl hM (by decide) ?_
                      refine e_bipush dX9_draw_204 (by decide) ?_
                      refine e_iload dX9_draw_206 rfl ?_
                      refine e_imul dX9_draw_208 ?_
                      refine e_iload dX9_draw_209 rfl ?_
                      refine e_iadd dX9_draw_211 ?_
                      refine e_iload dX9_draw_212 rfl ?_
                      refine m_st dX9_draw_214 hM (by decide) rfl (by omega) (by simp only [mL]; omega) (by omega) (fun hM => ?_)
                      refine e_iinc dX9_draw_215 (by decide) rfl rfl rfl rfl ?_
                      refine e_goto (tgt := 104) dX9_draw_218 (by decide) ?_
                      refine ih _ _ _ (by omega) (by omega) (by omega) (by rw [sg_s k0, ← hm]; first | rw [b2_t (by omega)] | rw [b2_f (by omega), Int.add_zero]) (MM_eq hM (fun f _ _ j => ?_)) ht
                      first | exact drawI_st (by omega) | exact drawI_no (by omega)
          exact lp104 97 _ _ _ (by omega) (by omega) (by omega) rfl (MM_eq hM (fun f _ _ j => if_neg (by omega))) ht
        · skip
          try simp only [b2_0, b2_n0] at c85
          exfalso; omega
  refine e_iload_n dX9_draw_0 rfl rfl ?_
  refine e_iconst dX9_draw_1 ?_
  refine e_bipush dX9_draw_2 (by decide) ?_
  refine e_callS (As := [zI _, zI _, zI _]) dX9_draw_4 moX9_in msX9_in mlX9_139 rfl (Nat.le_of_ble_eq_true rfl) ⟨by decide, by decide, by decide, by decide⟩ (c_X9_in hl _ _ _ (by omega) (by omega) (by omega)) (fun E h1 q => by cases q.1) (fun v h9 q => ?_)
  obtain ⟨e1, e2⟩ := q; cases e1; rw [e2]; clear e2 h9
  refine e_if_eq (tgt := 59) dX9_draw_7 (by decide) b2_in (fun c7 => ?_) (fun c7 => ?_)
  · skip
    try simp only [b2_0, b2_n0] at c7
    refine e_iconst dX9_draw_59 ?_
    first | (rw [b2_t (by omega)] at j60; exact j60) | (rw [b2_f (by omega)] at j60; exact j60)
  · skip
    try simp only [b2_0, b2_n0] at c7
    refine e_iload dX9_draw_10 rfl ?_
    refine e_iconst dX9_draw_12 ?_
    refine e_bipush dX9_draw_13 (by decide) ?_
    refine e_callS (As := [zI _, zI _, zI _]) dX9_draw_15 moX9_in msX9_in mlX9_139 rfl (Nat.le_of_ble_eq_true rfl) ⟨by decide, by decide, by decide, by decide⟩ (c_X9_in hl _ _ _ (by omega) (by omega) (by omega)) (fun E h1 q => by cases q.1) (fun v h9 q => ?_)
    obtain ⟨e1, e2⟩ := q; cases e1; rw [e2]; clear e2 h9
    refine e_if_eq (tgt := 59) dX9_draw_18 (by decide) b2_in (fun c18 => ?_) (fun c18 => ?_)
    · skip
      try simp only [b2_0, b2_n0] at c18
      refine e_iconst dX9_draw_59 ?_
      first | (rw [b2_t (by omega)] at j60; exact j60) | (rw [b2_f (by omega)] at j60; exact j60)
    · skip
      try simp only [b2_0, b2_n0] at c18
      refine e_iload dX9_draw_21 rfl ?_
      refine e_iconst dX9_draw_23 ?_
      refine e_bipush dX9_draw_24 (by decide) ?_
      refine e_callS (As := [zI _, zI _, zI _]) dX9_draw_26 moX9_in msX9_in mlX9_139 rfl (Nat.le_of_ble_eq_true rfl) ⟨by decide, by decide, by decide, by decide⟩ (c_X9_in hl _ _ _ (by omega) (by omega) (by omega)) (fun E h1 q => by cases q.1) (fun v h9 q => ?_)
      obtain ⟨e1, e2⟩ := q; cases e1; rw [e2]; clear e2 h9
      refine e_if_eq (tgt := 59) dX9_draw_29 (by decide) b2_in (fun c29 => ?_) (fun c29 => ?_)
      · skip
        try simp only [b2_0, b2_n0] at c29
        refine e_iconst dX9_draw_59 ?_
        first | (rw [b2_t (by omega)] at j60; exact j60) | (rw [b2_f (by omega)] at j60; exact j60)
      · skip
        try simp only [b2_0, b2_n0] at c29
        refine e_iload dX9_draw_32 rfl ?_
        refine e_iconst dX9_draw_34 ?_
        refine e_bipush dX9_draw_35 (by decide) ?_
        refine e_callS (As := [zI _, zI _, zI _]) dX9_draw_37 moX9_in msX9_in mlX9_139 rfl (Nat.le_of_ble_eq_true rfl) ⟨by decide, by decide, by decide, by decide⟩ (c_X9_in hl _ _ _ (by omega) (by omega) (by omega)) (fun E h1 q => by cases q.1) (fun v h9 q => ?_)
        obtain ⟨e1, e2⟩ := q; cases e1; rw [e2]; clear e2 h9
        refine e_if_eq (tgt := 59) dX9_draw_40 (by decide) b2_in (fun c40 => ?_) (fun c40 => ?_)
        · skip
          try simp only [b2_0, b2_n0] at c40
          refine e_iconst dX9_draw_59 ?_
          first | (rw [b2_t (by omega)] at j60; exact j60) | (rw [b2_f (by omega)] at j60; exact j60)
        · skip
          try simp only [b2_0, b2_n0] at c40
          refine e_iload dX9_draw_43 rfl ?_
          refine e_iconst dX9_draw_45 ?_
          refine e_sipush dX9_draw_46 (by decide) ?_
          refine e_callS (As := [zI _, zI _, zI _]) dX9_draw_49 moX9_in msX9_in mlX9_139 rfl (Nat.le_of_ble_eq_true rfl) ⟨by decide, by decide, by decide, by decide⟩ (c_X9_in hl _ _ _ (by omega) (by omega) (by omega)) (fun E h1 q => by cases q.1) (fun v h9 q => ?_)
          obtain ⟨e1, e2⟩ := q; cases e1; rw [e2]; clear e2 h9
          refine e_if_eq (tgt := 59) dX9_draw_52 (by decide) b2_in (fun c52 => ?_) (fun c52 => ?_)
          · skip
            try simp only [b2_0, b2_n0] at c52
            refine e_iconst dX9_draw_59 ?_
            first | (rw [b2_t (by omega)] at j60; exact j60) | (rw [b2_f (by omega)] at j60; exact j60)
          · skip
            try simp only [b2_0, b2_n0] at c52
            refine e_iconst dX9_draw_55 ?_
            refine e_goto (tgt := 60) dX9_draw_56 (by decide) ?_
            first | (rw [b2_t (by omega)] at j60; exact j60) | (rw [b2_f (by omega)] at j60; exact j60)
