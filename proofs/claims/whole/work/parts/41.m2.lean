set_option maxHeartbeats 4000000 in
set_option maxRecDepth 100000 in
theorem c_X9_takeOut {l : Launch} (hl : l.stackTraces = false) {S : S9} {h : zH} (hM : RM S h) (hN : IN S) (s w p : Int) (hs0 : 0 ≤ s) (hs1 : s < 4) (hw : zin w) (hp : posO S s w p) : zC l MX9_takeOut [zR (some 99), zI s, zI w] h (fun o h' => o = .inl none ∧ MM (tkO S s p) h h' ∧ zf h' 1000 99 = zf h 1000 99) := by
  refine zC_of hl rfl rfl (by decide) rfl rfl (Nat.le_of_ble_eq_true rfl) ?_
  have hM : MM S h h := MM_rf hM
  have hN2 := hN.2.2.2.2 s hs0 hs1
  obtain ⟨p1, p2, p3, p4⟩ := hp
  refine e_bipush dX9_takeOut_0 (by decide) ?_
  refine e_iload_n dX9_takeOut_2 rfl rfl ?_
  refine e_imul dX9_takeOut_3 ?_
  refine e_istore_n dX9_takeOut_4 rfl (by decide) rfl rfl ?_
  refine e_bipush dX9_takeOut_5 (by decide) ?_
  refine e_iload_n dX9_takeOut_7 rfl rfl ?_
  refine e_imul dX9_takeOut_8 ?_
  refine e_istore dX9_takeOut_9 (by decide) rfl rfl ?_
  have lp11 : ∀ (d : Nat) (a t : Int) (h1 : zH), (6 * s + S 16 s - a).toNat < d → 6 * s ≤ a → a ≤ 6 * s + S 16 s → t = (if a - 6 * s ≤ p then a else a - 1) → MM (ordI S s p a) h h1 → zf h1 1000 99 = zf h 1000 99 → AW l MX9_takeOut (fun o h' => o = .inl none ∧ MM (tkO S s p) h h' ∧ zf h' 1000 99 = zf h 1000 99) 0 0 11 [zR (some 99), zI s, zI w, zI t, zI a] [] h1 := by
    intro d
    induction d with
    | zero => intro a t h1 hd a1 a2 a3 hM ht; exact absurd hd (by omega)
    | succ d ih =>
      have ih11 := ih
      intro a t h1 hd a1 a2 a3 hM ht
      have e16 : ordI S s p a 16 s = S 16 s := if_neg (by omega)
      have e15 : ordI S s p a 15 a = S 15 a := if_neg (by omega)
      have t1 : 6 * s ≤ t ∧ t ≤ a := by split at a3 <;> omega
      refine e_iload dX9_takeOut_11 rfl ?_
      refine e_bipush dX9_takeOut_13 (by decide) ?_
      refine e_iload_n dX9_takeOut_15 rfl rfl ?_
      refine e_imul dX9_takeOut_16 ?_
      refine e_aload_n dX9_takeOut_17 rfl rfl ?_
      refine m_arr 16 dX9_takeOut_18 flX9_47 rfl hM (by decide) ?_
      refine e_iload_n dX9_takeOut_21 rfl rfl ?_
      refine m_ld dX9_takeOut_22 hM (by decide) rfl (by omega) (by simp only [mL]; omega) rfl (fun r22 => ?_)
      refine e_iadd dX9_takeOut_23 ?_
      refine e_icmp_ge (tgt := 65) dX9_takeOut_24 (by decide) (by omega) (by omega) (fun c24 => ?_) (fun c24 => ?_)
      · skip
        refine e_aload_n dX9_takeOut_65 rfl rfl ?_
        refine m_arr 16 dX9_takeOut_66 flX9_47 rfl hM (by decide) ?_
        refine e_iload_n dX9_takeOut_69 rfl rfl ?_
        refine e_dup2 dX9_takeOut_70 rfl rfl ?_
        refine m_ld dX9_takeOut_71 hM (by decide) rfl (by omega) (by simp only [mL]; omega) rfl (fun r71 => ?_)
        refine e_iconst dX9_takeOut_72 ?_
        refine e_isub dX9_takeOut_73 ?_
        refine m_st dX9_takeOut_74 hM (by decide) rfl (by omega) (by simp only [mL]; omega) (by omega) (fun hM => ?_)
        have ht2 := ht
        refine e_vret dX9_takeOut_75 rfl (by decide) (by decide) ?_
        exact ⟨rfl, MM_eq hM (fun f _ _ j => by unfold tkO up ordI; (repeat' split) <;> first | rfl | (exfalso; omega) | (congr 1 <;> omega) | omega), ht⟩
      · skip
        have u15 : up (ordI S s p a) 15 t (ordI S s p a 15 a) 15 a = S 15 a := by rw [up_at, e15]; split <;> rfl
        refine e_aload_n dX9_takeOut_27 rfl rfl ?_
        refine m_arr 15 dX9_takeOut_28 flX9_44 rfl hM (by decide) ?_
        refine e_iload_n dX9_takeOut_31 rfl rfl ?_
        refine e_aload_n dX9_takeOut_32 rfl rfl ?_
        refine m_arr 15 dX9_takeOut_33 flX9_44 rfl hM (by decide) ?_
        refine e_iload dX9_takeOut_36 rfl ?_
        refine m_ld dX9_takeOut_38 hM (by decide) rfl (by omega) (by simp only [mL]; omega) rfl (fun r38 => ?_)
        refine m_st dX9_takeOut_39 hM (by decide) rfl (by omega) (by simp only [mL]; omega) (by omega) (fun hM => ?_)
        refine e_iload_n dX9_takeOut_40 rfl rfl ?_
        refine e_aload_n dX9_takeOut_41 rfl rfl ?_
        refine m_arr 15 dX9_takeOut_42 flX9_44 rfl hM (by decide) ?_
        refine e_iload dX9_takeOut_45 rfl ?_
        refine m_ld dX9_takeOut_47 hM (by decide) rfl (by omega) (by simp only [mL]; omega) rfl (fun r47 => ?_)
        refine e_iload_n dX9_takeOut_48 rfl rfl ?_
        refine e_icmp_ne (tgt := 56) dX9_takeOut_49 (by decide) (by omega) (by omega) (fun c49 => ?_) (fun c49 => ?_)
        · skip
          refine e_iconst dX9_takeOut_56 ?_
          refine e_iadd dX9_takeOut_57 ?_
          refine e_istore_n dX9_takeOut_58 rfl (by decide) rfl rfl ?_
          refine e_iinc dX9_takeOut_59 (by decide) rfl rfl rfl rfl ?_
          refine e_goto (tgt := 11) dX9_takeOut_62 (by decide) ?_
          refine ih _ _ _ (by omega) (by omega) (by omega) ?_ (MM_eq hM (fun f _ _ j => ?_)) ht
          · split <;> split at a3 <;> first | omega | (exfalso; first | exact c49 (by rw [u15, show a = 6 * s + p by omega]; exact p3) | exact p4 (a - 6 * s) (by omega) (by omega) (by omega) (by rw [show 6 * s + (a - 6 * s) = a by omega, ← u15]; exact c49))
          · unfold up
            rw [e15]
            unfold ordI
            split at a3 <;> (repeat' split) <;> first | rfl | (exfalso; omega) | (congr 1 <;> omega) | (have e : f = 15 := (by omega); subst e; congr 1 <;> omega)
        · skip
          refine e_iconst dX9_takeOut_52 ?_
          refine e_goto (tgt := 57) dX9_takeOut_53 (by decide) ?_
          refine e_iadd dX9_takeOut_57 ?_
          refine e_istore_n dX9_takeOut_58 rfl (by decide) rfl rfl ?_
          refine e_iinc dX9_takeOut_59 (by decide) rfl rfl rfl rfl ?_
          refine e_goto (tgt := 11) dX9_takeOut_62 (by decide) ?_
          refine ih _ _ _ (by omega) (by omega) (by omega) ?_ (MM_eq hM (fun f _ _ j => ?_)) ht
          · split <;> split at a3 <;> first | omega | (exfalso; first | exact c49 (by rw [u15, show a = 6 * s + p by omega]; exact p3) | exact p4 (a - 6 * s) (by omega) (by omega) (by omega) (by rw [show 6 * s + (a - 6 * s) = a by omega, ← u15]; exact c49))
          · unfold up
            rw [e15]
            unfold ordI
            split at a3 <;> (repeat' split) <;> first | rfl | (exfalso; omega) | (congr 1 <;> omega) | (have e : f = 15 := (by omega); subst e; congr 1 <;> omega)
  exact lp11 (6 + 1) _ _ _ (by omega) (by omega) (by omega) (by rw [if_pos (by omega)]) (MM_eq hM (fun f _ _ j => if_neg (by omega))) rfl
set_option maxHeartbeats 4000000 in
set_option maxRecDepth 100000 in
theorem c_X9_openSession {l : Launch} (hl : l.stackTraces = false) {S : S9} {h : zH} (hM : RM S h) (hN : IN S) : zC l MX9_openSession [zR (some 99)] h (QM S h (if S 1 0 = 4 then 1 else 0) (zI 0) (zI (S 1 0)) (up S 1 0 (S 1 0 + 1))) := by
  refine zC_of hl rfl rfl (by decide) rfl rfl (Nat.le_of_ble_eq_true rfl) ?_
  have hM : MM S h h := MM_rf hM
  have hN2 := hN
  obtain ⟨n1, n2, -⟩ := hN2
  refine e_aload_n dX9_openSession_0 rfl rfl ?_
  refine e_aload_n dX9_openSession_1 rfl rfl ?_
  refine m_get 1 dX9_openSession_2 flX9_132 rfl hM (by unfold mS; omega) (by (try simp (disch := omega) only [up_f, up_i, up_eq, tkO_16, tkO_f]); rfl) (fun r2 => ?_)
  refine e_iconst dX9_openSession_5 ?_
  refine e_icmp_ne (tgt := 13) dX9_openSession_6 (by decide) (by omega) (by omega) (fun c6 => ?_) (fun c6 => ?_)
  · skip
    refine e_iconst dX9_openSession_13 ?_
    refine e_callV (As := [zI _]) (cb := 10) dX9_openSession_14 moX9_fails mvX9_fails mlX9_135 (by decide) rfl hM.1.1 rfl (Nat.le_of_ble_eq_true rfl) ⟨by decide, by decide, by decide, by decide⟩ (c_X9_fails hl hM.1 _ (by first | omega | exact b2_in)) (fun E h1 q => by cases q.1) (fun v h1 q => ?_)
    obtain ⟨e1, e2⟩ := q; cases e1; have ht := thr e2; have hM := MM_thr hM e2
    refine e_if_eq (tgt := 22) dX9_openSession_17 (by decide) b2_in (fun c17 => ?_) (fun c17 => ?_)
    · skip
      try simp only [b2_0, b2_n0] at c17
      refine e_aload_n dX9_openSession_22 rfl rfl ?_
      refine e_dup dX9_openSession_23 rfl ?_
      refine m_get 1 dX9_openSession_24 flX9_132 rfl hM (by unfold mS; omega) (by (try simp (disch := omega) only [up_f, up_i, up_eq, tkO_16, tkO_f]); rfl) (fun r24 => ?_)
      refine e_iconst dX9_openSession_27 ?_
      refine e_iadd dX9_openSession_28 ?_
      refine m_put 1 dX9_openSession_29 flX9_132 (Or.inl rfl) trivial hM (by unfold mS; omega) (by omega) (fun hM => ?_)
      refine e_aload_n dX9_openSession_32 rfl rfl ?_
      refine m_get 1 dX9_openSession_33 flX9_132 rfl hM (by unfold mS; omega) (by (try simp (disch := omega) only [up_f, up_i, up_eq, tkO_16, tkO_f]); rfl) (fun r33 => ?_)
      refine e_iconst dX9_openSession_36 ?_
      refine e_isub dX9_openSession_37 ?_
      refine e_iret dX9_openSession_38 rfl trivial (by decide) (by decide) ?_
      exact QM_ok ht (if_neg (by omega)) (by congr 1; omega) hM
    · skip
      try simp only [b2_0, b2_n0] at c17
      exfalso; omega
  · skip
    refine e_iconst dX9_openSession_9 ?_
    refine e_goto (tgt := 14) dX9_openSession_10 (by decide) ?_
    refine e_callV (As := [zI _]) (cb := 10) dX9_openSession_14 moX9_fails mvX9_fails mlX9_135 (by decide) rfl hM.1.1 rfl (Nat.le_of_ble_eq_true rfl) ⟨by decide, by decide, by decide, by decide⟩ (c_X9_fails hl hM.1 _ (by first | omega | exact b2_in)) (fun E h1 q => by cases q.1) (fun v h1 q => ?_)
    obtain ⟨e1, e2⟩ := q; cases e1; have ht := thr e2; have hM := MM_thr hM e2
    refine e_if_eq (tgt := 22) dX9_openSession_17 (by decide) b2_in (fun c17 => ?_) (fun c17 => ?_)
    · skip
      try simp only [b2_0, b2_n0] at c17
      exfalso; omega
    · skip
      try simp only [b2_0, b2_n0] at c17
      refine e_iconst dX9_openSession_20 ?_
      refine e_iret dX9_openSession_21 rfl trivial (by decide) (by decide) ?_
      exact QM_no ht (if_pos (by omega)) (by decide) hM
set_option maxHeartbeats 4000000 in
set_option maxRecDepth 100000 in
theorem c_X9_openWindow {l : Launch} (hl : l.stackTraces = false) {S : S9} {h : zH} (hM : RM S h) (hN : IN S) (s x y a b : Int) (hs : zin s) (hx : zin x) (hy : zin y) (ha : zin a) (hb : zin b) : zC l MX9_openWindow [zR (some 99), zI s, zI x, zI y, zI a, zI b] h (QM S h (if ¬ isS S s then 1 else if ¬ ((-5 ≤ x ∧ x ≤ 11) ∧ (-5 ≤ y ∧ y ≤ 7) ∧ (1 ≤ a ∧ a ≤ 12) ∧ (1 ≤ b ∧ b ≤ 8)) then 2 else if S 4 s = 6 then 3 else 0) (zI 0) (zI (S 4 s)) (opW S s x y a b)) := by
  refine zC_of hl rfl rfl (by decide) rfl rfl (Nat.le_of_ble_eq_true rfl) ?_
  have hM : MM S h h := MM_rf hM
  have hN2 := hN
  obtain ⟨n1, n2, -, -, n5⟩ := hN2
  refine e_aload_n dX9_openWindow_0 rfl rfl ?_
  refine e_iload_n dX9_openWindow_1 rfl rfl ?_
  refine e_callV (As := [zI _]) (cb := 10) dX9_openWindow_2 moX9_failsSession mvX9_failsSession mlX9_146 (by decide) rfl hM.1.1 rfl (Nat.le_of_ble_eq_true rfl) ⟨by decide, by decide, by decide, by decide⟩ (c_X9_failsSession hl hM.1 hN _ hs) (fun E h1 q => by cases q.1) (fun v h1 q => ?_)
  obtain ⟨e1, e2⟩ := q; cases e1; have ht := thr e2; have hM := MM_thr hM e2
  refine e_if_eq (tgt := 10) dX9_openWindow_5 (by decide) b2_in (fun c5 => ?_) (fun c5 => ?_)
  · skip
    try simp only [b2_0, b2_n0] at c5
    have j59 : AW l MX9_openWindow (QM S h (if ¬ isS S s then 1 else if ¬ ((-5 ≤ x ∧ x ≤ 11) ∧ (-5 ≤ y ∧ y ≤ 7) ∧ (1 ≤ a ∧ a ≤ 12) ∧ (1 ≤ b ∧ b ≤ 8)) then 2 else if S 4 s = 6 then 3 else 0) (zI 0) (zI (S 4 s)) (opW S s x y a b)) 0 0 59 [zR (some 99), zI s, zI x, zI y, zI a, zI b, zX, zX] [zI (b2 ((-5 ≤ x ∧ x ≤ 11) ∧ (-5 ≤ y ∧ y ≤ 7) ∧ (1 ≤ a ∧ a ≤ 12) ∧ (1 ≤ b ∧ b ≤ 8)))] h1 := by
      have n6 := n5 s (by omega) (by omega)
      refine e_istore dX9_openWindow_59 (by decide) rfl rfl ?_
      refine e_aload_n dX9_openWindow_61 rfl rfl ?_
      refine e_iload dX9_openWindow_62 rfl ?_
      refine e_if_ne (tgt := 71) dX9_openWindow_64 (by decide) b2_in (fun c64 => ?_) (fun c64 => ?_)
      · skip
        try simp only [b2_0, b2_n0] at c64
        refine e_aload_n dX9_openWindow_71 rfl rfl ?_
        refine m_arr 4 dX9_openWindow_72 flX9_7 rfl hM (by decide) ?_
        refine e_iload_n dX9_openWindow_75 rfl rfl ?_
        refine m_ld dX9_openWindow_76 hM (by decide) rfl (by omega) (by simp only [mL]; omega) (by (try simp (disch := omega) only [up_f, up_i, up_eq, tkO_16, tkO_f]); rfl) (fun r76 => ?_)
        refine e_bipush dX9_openWindow_77 (by decide) ?_
        refine e_icmp_ne (tgt := 86) dX9_openWindow_79 (by decide) (by omega) (by omega) (fun c79 => ?_) (fun c79 => ?_)
        · skip
          refine e_iconst dX9_openWindow_86 ?_
          refine e_callV (As := [zI _]) (cb := 10) dX9_openWindow_87 moX9_fails mvX9_fails mlX9_135 (by decide) rfl hM.1.1 rfl (Nat.le_of_ble_eq_true rfl) ⟨by decide, by decide, by decide, by decide⟩ (c_X9_fails hl hM.1 _ (by first | omega | exact b2_in)) (fun E h1 q => by cases q.1) (fun v h1 q => ?_)
          obtain ⟨e1, e2⟩ := q; cases e1; have ht := thr e2; have hM := MM_thr hM e2
          refine e_if_eq (tgt := 95) dX9_openWindow_90 (by decide) b2_in (fun c90 => ?_) (fun c90 => ?_)
          · skip
            try simp only [b2_0, b2_n0] at c90
            refine e_bipush dX9_openWindow_95 (by decide) ?_
            refine e_iload_n dX9_openWindow_97 rfl rfl ?_
            refine e_imul dX9_openWindow_98 ?_
            refine e_aload_n dX9_openWindow_99 rfl rfl ?_
            refine m_arr 4 dX9_openWindow_100 flX9_7 rfl hM (by decide) ?_
            refine e_iload_n dX9_openWindow_103 rfl rfl ?_
            refine m_ld dX9_openWindow_104 hM (by decide) rfl (by omega) (by simp only [mL]; omega) (by (try simp (disch := omega) only [up_f, up_i, up_eq, tkO_16, tkO_f]); rfl) (fun r104 => ?_)
            refine e_iadd dX9_openWindow_105 ?_
            refine e_istore dX9_openWindow_106 (by decide) rfl rfl ?_
            refine e_aload_n dX9_openWindow_108 rfl rfl ?_
            refine m_arr 4 dX9_openWindow_109 flX9_7 rfl hM (by decide) ?_
            refine e_iload_n dX9_openWindow_112 rfl rfl ?_
            refine e_dup2 dX9_openWindow_113 rfl rfl ?_
            refine m_ld dX9_openWindow_114 hM (by decide) rfl (by omega) (by simp only [mL]; omega) (by (try simp (disch := omega) only [up_f, up_i, up_eq, tkO_16, tkO_f]); rfl) (fun r114 => ?_)
            refine e_iconst dX9_openWindow_115 ?_
            refine e_iadd dX9_openWindow_116 ?_
            refine m_st dX9_openWindow_117 hM (by decide) rfl (by omega) (by simp only [mL]; omega) (by omega) (fun hM => ?_)
            refine e_aload_n dX9_openWindow_118 rfl rfl ?_
            refine m_arr 5 dX9_openWindow_119 flX9_13 rfl hM (by decide) ?_
            refine e_iload dX9_openWindow_122 rfl ?_
            refine e_iload_n dX9_openWindow_124 rfl rfl ?_
            refine m_st dX9_openWindow_125 hM (by decide) rfl (by omega) (by simp only [mL]; omega) (by omega) (fun hM => ?_)
            refine e_aload_n dX9_openWindow_126 rfl rfl ?_
            refine m_arr 6 dX9_openWindow_127 flX9_16 rfl hM (by decide) ?_
            refine e_iload dX9_openWindow_130 rfl ?_
            refine e_iload_n dX9_openWindow_132 rfl rfl ?_
            refine m_st dX9_openWindow_133 hM (by decide) rfl (by omega) (by simp only [mL]; omega) (by omega) (fun hM => ?_)
            refine e_aload_n dX9_openWindow_134 rfl rfl ?_
            refine m_arr 7 dX9_openWindow_135 flX9_19 rfl hM (by decide) ?_
            refine e_iload dX9_openWindow_138 rfl ?_
            refine e_iload dX9_openWindow_140 rfl ?_
            refine m_st dX9_openWindow_142 hM (by decide) rfl (by omega) (by simp only [mL]; omega) (by omega) (fun hM => ?_)
            refine e_aload_n dX9_openWindow_143 rfl rfl ?_
            refine m_arr 8 dX9_openWindow_144 flX9_22 rfl hM (by decide) ?_
            refine e_iload dX9_openWindow_147 rfl ?_
            refine e_iload dX9_openWindow_149 rfl ?_
            refine m_st dX9_openWindow_151 hM (by decide) rfl (by omega) (by simp only [mL]; omega) (by omega) (fun hM => ?_)
            refine e_aload_n dX9_openWindow_152 rfl rfl ?_
            refine m_arr 10 dX9_openWindow_153 flX9_28 rfl hM (by decide) ?_
            refine e_iload dX9_openWindow_156 rfl ?_
            refine e_iconst dX9_openWindow_158 ?_
            refine m_stz dX9_openWindow_159 hM (by decide) rfl (by omega) (by simp only [mL]; omega) (by first | exact Or.inl rfl | exact Or.inr rfl | assumption) (fun hM => ?_)
            refine e_aload_n dX9_openWindow_160 rfl rfl ?_
            refine m_arr 11 dX9_openWindow_161 flX9_32 rfl hM (by decide) ?_
            refine e_iload dX9_openWindow_164 rfl ?_
            refine e_iconst dX9_openWindow_166 ?_
            refine m_stz dX9_openWindow_167 hM (by decide) rfl (by omega) (by simp only [mL]; omega) (by first | exact Or.inl rfl | exact Or.inr rfl | assumption) (fun hM => ?_)
            refine e_aload_n dX9_openWindow_168 rfl rfl ?_
            refine m_arr 15 dX9_openWindow_169 flX9_44 rfl hM (by decide) ?_
            refine e_bipush dX9_openWindow_172 (by decide) ?_
            refine e_iload_n dX9_openWindow_174 rfl rfl ?_
            refine e_imul dX9_openWindow_175 ?_
            refine e_aload_n dX9_openWindow_176 rfl rfl ?_
            refine m_arr 16 dX9_openWindow_177 flX9_47 rfl hM (by decide) ?_
            refine e_iload_n dX9_openWindow_180 rfl rfl ?_
            refine m_ld dX9_openWindow_181 hM (by decide) rfl (by omega) (by simp only [mL]; omega) (by (try simp (disch := omega) only [up_f, up_i, up_eq, tkO_16, tkO_f]); rfl) (fun r181 => ?_)
            refine e_iadd dX9_openWindow_182 ?_
            refine e_iload dX9_openWindow_183 rfl ?_
            refine m_st dX9_openWindow_185 hM (by decide) rfl (by omega) (by simp only [mL]; omega) (by omega) (fun hM => ?_)
            refine e_aload_n dX9_openWindow_186 rfl rfl ?_
            refine m_arr 16 dX9_openWindow_187 flX9_47 rfl hM (by decide) ?_
            refine e_iload_n dX9_openWindow_190 rfl rfl ?_
            refine e_dup2 dX9_openWindow_191 rfl rfl ?_
            refine m_ld dX9_openWindow_192 hM (by decide) rfl (by omega) (by simp only [mL]; omega) (by (try simp (disch := omega) only [up_f, up_i, up_eq, tkO_16, tkO_f]); rfl) (fun r192 => ?_)
            refine e_iconst dX9_openWindow_193 ?_
            refine e_iadd dX9_openWindow_194 ?_
            refine m_st dX9_openWindow_195 hM (by decide) rfl (by omega) (by simp only [mL]; omega) (by omega) (fun hM => ?_)
            refine e_aload_n dX9_openWindow_196 rfl rfl ?_
            refine m_arr 4 dX9_openWindow_197 flX9_7 rfl hM (by decide) ?_
            refine e_iload_n dX9_openWindow_200 rfl rfl ?_
            refine m_ld dX9_openWindow_201 hM (by decide) rfl (by omega) (by simp only [mL]; omega) (by (try simp (disch := omega) only [up_f, up_i, up_eq, tkO_16, tkO_f]); rfl) (fun r201 => ?_)
            refine e_iconst dX9_openWindow_202 ?_
            refine e_isub dX9_openWindow_203 ?_
            refine e_iret dX9_openWindow_204 rfl trivial (by decide) (by decide) ?_
            exact QM_ok ht (by first | (rw [if_neg (by omega)]; done) | (rw [if_neg (by omega), if_neg (by omega)]; done) | (rw [if_neg (by omega), if_neg (by omega), if_neg (by omega)]; done) | (rw [if_neg (by omega), if_neg (by omega), if_neg (by omega), if_neg (by omega)]; done)) (by congr 1; omega) hM
          · skip
            try simp only [b2_0, b2_n0] at c90
            exfalso; omega
        · skip
          refine e_iconst dX9_openWindow_82 ?_
          refine e_goto (tgt := 87) dX9_openWindow_83 (by decide) ?_
          refine e_callV (As := [zI _]) (cb := 10) dX9_openWindow_87 moX9_fails mvX9_fails mlX9_135 (by decide) rfl hM.1.1 rfl (Nat.le_of_ble_eq_true rfl) ⟨by decide, by decide, by decide, by decide⟩ (c_X9_fails hl hM.1 _ (by first | omega | exact b2_in)) (fun E h1 q => by cases q.1) (fun v h1 q => ?_)
          obtain ⟨e1, e2⟩ := q; cases e1; have ht := thr e2; have hM := MM_thr hM e2
          refine e_if_eq (tgt := 95) dX9_openWindow_90 (by decide) b2_in (fun c90 => ?_) (fun c90 => ?_)
          · skip
            try simp only [b2_0, b2_n0] at c90
            exfalso; omega
          · skip
            try simp only [b2_0, b2_n0] at c90
            refine e_iconst dX9_openWindow_93 ?_
            refine e_iret dX9_openWindow_94 rfl trivial (by decide) (by decide) ?_
            exact QM_no ht (by first | (rw [if_pos (by omega)]; done) | (rw [if_neg (by omega), if_pos (by omega)]; done) | (rw [if_neg (by omega), if_neg (by omega), if_pos (by omega)]; done) | (rw [if_neg (by omega), if_neg (by omega), if_neg (by omega), if_pos (by omega)]; done)) (by decide) hM
      · skip
        try simp only [b2_0, b2_n0] at c64
        refine e_iconst dX9_openWindow_67 ?_
        refine e_goto (tgt := 87) dX9_openWindow_68 (by decide) ?_
        refine e_callV (As := [zI _]) (cb := 10) dX9_openWindow_87 moX9_fails mvX9_fails mlX9_135 (by decide) rfl hM.1.1 rfl (Nat.le_of_ble_eq_true rfl) ⟨by decide, by decide, by decide, by decide⟩ (c_X9_fails hl hM.1 _ (by first | omega | exact b2_in)) (fun E h1 q => by cases q.1) (fun v h1 q => ?_)
        obtain ⟨e1, e2⟩ := q; cases e1; have ht := thr e2; have hM := MM_thr hM e2
        refine e_if_eq (tgt := 95) dX9_openWindow_90 (by decide) b2_in (fun c90 => ?_) (fun c90 => ?_)
        · skip
          try simp only [b2_0, b2_n0] at c90
          exfalso; omega
        · skip
          try simp only [b2_0, b2_n0] at c90
          refine e_iconst dX9_openWindow_93 ?_
          refine e_iret dX9_openWindow_94 rfl trivial (by decide) (by decide) ?_
          exact QM_no ht (by first | (rw [if_pos (by omega)]; done) | (rw [if_neg (by omega), if_pos (by omega)]; done) | (rw [if_neg (by omega), if_neg (by omega), if_pos (by omega)]; done) | (rw [if_neg (by omega), if_neg (by omega), if_neg (by omega), if_pos (by omega)]; done)) (by decide) hM
    refine e_iload_n dX9_openWindow_10 rfl rfl ?_
    refine e_bipush dX9_openWindow_11 (by decide) ?_
    refine e_bipush dX9_openWindow_13 (by decide) ?_
    refine e_callS (As := [zI _, zI _, zI _]) dX9_openWindow_15 moX9_in msX9_in mlX9_139 rfl (Nat.le_of_ble_eq_true rfl) ⟨by decide, by decide, by decide, by decide⟩ (c_X9_in hl _ _ _ (by omega) (by omega) (by omega)) (fun E h1 q => by cases q.1) (fun v h9 q => ?_)
    obtain ⟨e1, e2⟩ := q; cases e1; rw [e2]; clear e2 h9
    refine e_if_eq (tgt := 58) dX9_openWindow_18 (by decide) b2_in (fun c18 => ?_) (fun c18 => ?_)
    · skip
      try simp only [b2_0, b2_n0] at c18
      refine e_iconst dX9_openWindow_58 ?_
      first | (rw [b2_t (by omega)] at j59; exact j59) | (rw [b2_f (by omega)] at j59; exact j59)
    · skip
      try simp only [b2_0, b2_n0] at c18
      refine e_iload_n dX9_openWindow_21 rfl rfl ?_
      refine e_bipush dX9_openWindow_22 (by decide) ?_
      refine e_bipush dX9_openWindow_24 (by decide) ?_
      refine e_callS (As := [zI _, zI _, zI _]) dX9_openWindow_26 moX9_in msX9_in mlX9_139 rfl (Nat.le_of_ble_eq_true rfl) ⟨by decide, by decide, by decide, by decide⟩ (c_X9_in hl _ _ _ (by omega) (by omega) (by omega)) (fun E h1 q => by cases q.1) (fun v h9 q => ?_)
      obtain ⟨e1, e2⟩ := q; cases e1; rw [e2]; clear e2 h9
      refine e_if_eq (tgt := 58) dX9_openWindow_29 (by decide) b2_in (fun c29 => ?_) (fun c29 => ?_)
      · skip
        try simp only [b2_0, b2_n0] at c29
        refine e_iconst dX9_openWindow_58 ?_
        first | (rw [b2_t (by omega)] at j59; exact j59) | (rw [b2_f (by omega)] at j59; exact j59)
      · skip
        try simp only [b2_0, b2_n0] at c29
        refine e_iload dX9_openWindow_32 rfl ?_
        refine e_iconst dX9_openWindow_34 ?_
        refine e_bipush dX9_openWindow_35 (by decide) ?_
        refine e_callS (As := [zI _, zI _, zI _]) dX9_openWindow_37 moX9_in msX9_in mlX9_139 rfl (Nat.le_of_ble_eq_true rfl) ⟨by decide, by decide, by decide, by decide⟩ (c_X9_in hl _ _ _ (by omega) (by omega) (by omega)) (fun E h1 q => by cases q.1) (fun v h9 q => ?_)
        obtain ⟨e1, e2⟩ := q; cases e1; rw [e2]; clear e2 h9
        refine e_if_eq (tgt := 58) dX9_openWindow_40 (by decide) b2_in (fun c40 => ?_) (fun c40 => ?_)
        · skip
          try simp only [b2_0, b2_n0] at c40
          refine e_iconst dX9_openWindow_58 ?_
          first | (rw [b2_t (by omega)] at j59; exact j59) | (rw [b2_f (by omega)] at j59; exact j59)
        · skip
          try simp only [b2_0, b2_n0] at c40
          refine e_iload dX9_openWindow_43 rfl ?_
          refine e_iconst dX9_openWindow_45 ?_
          refine e_bipush dX9_openWindow_46 (by decide) ?_
          refine e_callS (As := [zI _, zI _, zI _]) dX9_openWindow_48 moX9_in msX9_in mlX9_139 rfl (Nat.le_of_ble_eq_true rfl) ⟨by decide, by decide, by decide, by decide⟩ (c_X9_in hl _ _ _ (by omega) (by omega) (by omega)) (fun E h1 q => by cases q.1) (fun v h9 q => ?_)
          obtain ⟨e1, e2⟩ := q; cases e1; rw [e2]; clear e2 h9
          refine e_if_eq (tgt := 58) dX9_openWindow_51 (by decide) b2_in (fun c51 => ?_) (fun c51 => ?_)
          · skip
            try simp only [b2_0, b2_n0] at c51
            refine e_iconst dX9_openWindow_58 ?_
            first | (rw [b2_t (by omega)] at j59; exact j59) | (rw [b2_f (by omega)] at j59; exact j59)
          · skip
            try simp only [b2_0, b2_n0] at c51
            refine e_iconst dX9_openWindow_54 ?_
            refine e_goto (tgt := 59) dX9_openWindow_55 (by decide) ?_
            first | (rw [b2_t (by omega)] at j59; exact j59) | (rw [b2_f (by omega)] at j59; exact j59)
  · skip
    try simp only [b2_0, b2_n0] at c5
    refine e_iconst dX9_openWindow_8 ?_
    refine e_iret dX9_openWindow_9 rfl trivial (by decide) (by decide) ?_
    exact QM_no (ht.trans (b2_t (by omega))) (by first | (rw [if_pos (by omega)]; done) | (rw [if_neg (by omega), if_pos (by omega)]; done) | (rw [if_neg (by omega), if_neg (by omega), if_pos (by omega)]; done) | (rw [if_neg (by omega), if_neg (by omega), if_neg (by omega), if_pos (by omega)]; done)) (by decide) hM
set_option maxHeartbeats 4000000 in
set_option maxRecDepth 100000 in
theorem c_X9_lookAt {l : Launch} (hl : l.stackTraces = false) {S : S9} {h : zH} (hM : RM S h) (hN : IN S) (hI : IW S) (hO : IO S) (s : Int) (hs0 : 0 ≤ s) (hs1 : s < 4) : zC l MX9_lookAt [zR (some 99), zI s] h (fun o h' => o = .inl none ∧ MM S h h' ∧ (∀ p, 0 ≤ p → p < 96 → za h' 141 p = screenAt S s p) ∧ ∀ i, zf h' i 99 = zf h i 99) := by
  refine zC_of hl rfl rfl (by decide) rfl rfl (Nat.le_of_ble_eq_true rfl) ?_
  have hM : MM S h h := MM_rf hM
  refine e_iconst dX9_lookAt_0 ?_
  refine e_istore_n dX9_lookAt_1 rfl (by decide) rfl rfl ?_
  have lp2 : ∀ (d : Nat) (i : Int) (h1 : zH), (96 - i).toNat < d → 0 ≤ i → i ≤ 96 → MM S h h1 → (∀ p, 0 ≤ p → p < i → za h1 141 p = screenAt S s p) → (∀ i, zf h1 i 99 = zf h i 99) → AW l MX9_lookAt (fun o h' => o = .inl none ∧ MM S h h' ∧ (∀ p, 0 ≤ p → p < 96 → za h' 141 p = screenAt S s p) ∧ ∀ i, zf h' i 99 = zf h i 99) 0 0 2 [zR (some 99), zI s, zI i] [] h1 := by
    intro d
    induction d with
    | zero => intro i h1 hd i0 i1 hM hv hz; exact absurd hd (by omega)
    | succ d ih =>
      have ih2 := ih
      intro i h1 hd i0 i1 hM hv hz
      refine e_iload_n dX9_lookAt_2 rfl rfl ?_
      refine e_bipush dX9_lookAt_3 (by decide) ?_
      refine e_icmp_ge (tgt := 26) dX9_lookAt_5 (by decide) (by omega) (by omega) (fun c5 => ?_) (fun c5 => ?_)
      · skip
        refine e_vret dX9_lookAt_26 rfl (by decide) (by decide) ?_
        exact ⟨rfl, hM, fun p p0 p1 => hv p p0 (by omega), hz⟩
      · skip
        refine e_aload_n dX9_lookAt_8 rfl rfl ?_
        refine m_arr 41 dX9_lookAt_9 flX9_122 rfl hM (by decide) ?_
        refine e_iload_n dX9_lookAt_12 rfl rfl ?_
        refine e_aload_n dX9_lookAt_13 rfl rfl ?_
        refine e_iload_n dX9_lookAt_14 rfl rfl ?_
        refine e_iload_n dX9_lookAt_15 rfl rfl ?_
        refine e_callV (As := [zI _, zI _]) (cb := 10) dX9_lookAt_16 moX9_screenAt mvX9_screenAt mlX9_164 (by decide) rfl hM.1.1 rfl (Nat.le_of_ble_eq_true rfl) ⟨by decide, by decide, by decide, by decide⟩ (c_X9_screenAt hl hM.1 hN hI hO _ _ hs0 hs1 i0 (by omega)) (fun E h1 q => by cases q.1) (fun v h9 q => ?_)
        obtain ⟨e1, e2⟩ := q; cases e1; rw [e2]; clear e2 h9
        refine e_G (fun G => ?_)
        have rs := screen_in (s := s) (p := i) hM.1 G
        refine m_stX dX9_lookAt_19 hM (by decide) (by omega) (by omega) rs (fun hM => ?_)
        refine e_iinc dX9_lookAt_20 (by decide) rfl rfl rfl rfl ?_
        refine e_goto (tgt := 2) dX9_lookAt_23 (by decide) ?_
        exact ih _ _ (by omega) (by omega) (by omega) hM (fun p p0 p1 => by
          show z3 (za h1) 141 i (screenAt S s i) 141 p = _
          unfold z3
          by_cases e : p = i
          · rw [if_pos ⟨rfl, e⟩, e]
          · rw [if_neg (fun z => e z.2)]
            exact hv p p0 (by omega)) hz
  exact lp2 97 _ _ (by omega) (by omega) (by omega) hM (fun p p0 p1 => absurd p1 (by omega)) (fun _ => rfl)
set_option maxHeartbeats 4000000 in
set_option maxRecDepth 100000 in
theorem c_X9_closeWindow {l : Launch} (hl : l.stackTraces = false) {S : S9} {h : zH} (hM : RM S h) (hN : IN S) (hI : IW S) (hO : IO S) (s w : Int) (hs : zin s) (hw : zin w) (p : Int) (hp : isWn S s w → posO S s (6 * s + w) p) : zC l MX9_closeWindow [zR (some 99), zI s, zI w] h (QM S h (if ¬ isWn S s w then 1 else 0) (zI 0) (zI (S 11 (6 * s + w))) (tkO (up S 10 (6 * s + w) 0) s p)) := by
  refine zC_of hl rfl rfl (by decide) rfl rfl (Nat.le_of_ble_eq_true rfl) ?_
  have hM : MM S h h := MM_rf hM
  have hN2 := hN
  obtain ⟨n1, n2, n3, n4, n5⟩ := hN2
  refine e_aload_n dX9_closeWindow_0 rfl rfl ?_
  refine e_iload_n dX9_closeWindow_1 rfl rfl ?_
  refine e_iload_n dX9_closeWindow_2 rfl rfl ?_
  refine e_callV (As := [zI _, zI _]) (cb := 10) dX9_closeWindow_3 moX9_failsWindow mvX9_failsWindow mlX9_149 (by decide) rfl hM.1.1 rfl (Nat.le_of_ble_eq_true rfl) ⟨by decide, by decide, by decide, by decide⟩ (c_X9_failsWindow hl hM.1 hN _ _ hs hw) (fun E h1 q => by cases q.1) (fun v h1 q => ?_)
  obtain ⟨e1, e2⟩ := q; cases e1; have ht := thr e2; have hM := MM_thr hM e2
  refine e_if_eq (tgt := 11) dX9_closeWindow_6 (by decide) b2_in (fun c6 => ?_) (fun c6 => ?_)
  · skip
    try simp only [b2_0, b2_n0] at c6
    refine e_bipush dX9_closeWindow_11 (by decide) ?_
    refine e_iload_n dX9_closeWindow_13 rfl rfl ?_
    refine e_imul dX9_closeWindow_14 ?_
    refine e_iload_n dX9_closeWindow_15 rfl rfl ?_
    refine e_iadd dX9_closeWindow_16 ?_
    refine e_istore_n dX9_closeWindow_17 rfl (by decide) rfl rfl ?_
    refine e_aload_n dX9_closeWindow_18 rfl rfl ?_
    refine m_arr 10 dX9_closeWindow_19 flX9_28 rfl hM (by decide) ?_
    refine e_iload_n dX9_closeWindow_22 rfl rfl ?_
    refine e_iconst dX9_closeWindow_23 ?_
    have n6 := n5 s (by omega) (by omega)
    refine m_stz dX9_closeWindow_24 hM (by decide) rfl (by omega) (by simp only [mL]; omega) (by first | exact Or.inl rfl | exact Or.inr rfl | assumption) (fun hM => ?_)
    refine e_aload_n dX9_closeWindow_25 rfl rfl ?_
    refine e_iload_n dX9_closeWindow_26 rfl rfl ?_
    refine e_iload_n dX9_closeWindow_27 rfl rfl ?_
    refine e_callV (As := [zI _, zI _]) (cb := 10) dX9_closeWindow_28 moX9_takeOut mvX9_takeOut mlX9_153 (by decide) rfl hM.1.1 rfl (Nat.le_of_ble_eq_true rfl) ⟨by decide, by decide, by decide, by decide⟩ (c_X9_takeOut hl hM.1 (IN_up hN (by omega)) _ _ p (by omega) (by omega) (by omega) (posO_up (hp (by omega)) (by omega))) (fun E h1 q => by cases q.1) (fun v h1 q => ?_)
    obtain ⟨e1, hM1, ht1⟩ := q; cases e1; have hM := MM_tr hM hM1; have ht : zf h1 1000 99 = _ := ht1.trans ht
    refine e_aload_n dX9_closeWindow_31 rfl rfl ?_
    refine m_arr 11 dX9_closeWindow_32 flX9_32 rfl hM (by decide) ?_
    refine e_iload_n dX9_closeWindow_35 rfl rfl ?_
    refine m_ldz dX9_closeWindow_36 hM (by decide) rfl (by omega) (by simp only [mL]; omega) (by (try simp (disch := omega) only [up_f, up_i, up_eq, tkO_16, tkO_f]); rfl) (fun r36 => ?_)
    refine e_iret dX9_closeWindow_37 rfl (by first | exact Or.inl rfl | exact Or.inr rfl | assumption | exact b2_01) (by decide) (by decide) ?_
    exact QM_ok (ht.trans (b2_f (by omega))) (by first | (rw [if_neg (by omega)]; done) | (rw [if_neg (by omega), if_neg (by omega)]; done) | (rw [if_neg (by omega), if_neg (by omega), if_neg (by omega)]; done) | (rw [if_neg (by omega), if_neg (by omega), if_neg (by omega), if_neg (by omega)]; done)) (by congr 1) hM
  · skip
    try simp only [b2_0, b2_n0] at c6
    refine e_iconst dX9_closeWindow_9 ?_
    refine e_iret dX9_closeWindow_10 rfl (by first | exact Or.inl rfl | exact Or.inr rfl | assumption | exact b2_01) (by decide) (by decide) ?_
    exact QM_no (ht.trans (b2_t (by omega))) (by first | (rw [if_pos (by omega)]; done) | (rw [if_neg (by omega), if_pos (by omega)]; done) | (rw [if_neg (by omega), if_neg (by omega), if_pos (by omega)]; done) | (rw [if_neg (by omega), if_neg (by omega), if_neg (by omega), if_pos (by omega)]; done)) (by decide) hM
set_option maxHeartbeats 4000000 in
set_option maxRecDepth 100000 in
theorem c_X9_raise {l : Launch} (hl : l.stackTraces = false) {S : S9} {h : zH} (hM : RM S h) (hN : IN S) (hI : IW S) (hO : IO S) (s w : Int) (hs : zin s) (hw : zin w) (p : Int) (hp : isWn S s w → posO S s (6 * s + w) p) : zC l MX9_raise [zR (some 99), zI s, zI w] h (QM S h (if ¬ isWn S s w then 1 else 0) (zI 0) (zI (b2 (S 15 (6 * s + S 16 s - 1) ≠ 6 * s + w))) (up (up (tkO S s p) 15 (6 * s + (S 16 s - 1)) (6 * s + w)) 16 s (S 16 s - 1 + 1))) := by
  refine zC_of hl rfl rfl (by decide) rfl rfl (Nat.le_of_ble_eq_true rfl) ?_
  have hM : MM S h h := MM_rf hM
  have hN2 := hN
  obtain ⟨n1, n2, n3, n4, n5⟩ := hN2
  refine e_aload_n dX9_raise_0 rfl rfl ?_
  refine e_iload_n dX9_raise_1 rfl rfl ?_
  refine e_iload_n dX9_raise_2 rfl rfl ?_
  refine e_callV (As := [zI _, zI _]) (cb := 10) dX9_raise_3 moX9_failsWindow mvX9_failsWindow mlX9_149 (by decide) rfl hM.1.1 rfl (Nat.le_of_ble_eq_true rfl) ⟨by decide, by decide, by decide, by decide⟩ (c_X9_failsWindow hl hM.1 hN _ _ hs hw) (fun E h1 q => by cases q.1) (fun v h1 q => ?_)
  obtain ⟨e1, e2⟩ := q; cases e1; have ht := thr e2; have hM := MM_thr hM e2
  refine e_if_eq (tgt := 11) dX9_raise_6 (by decide) b2_in (fun c6 => ?_) (fun c6 => ?_)
  · skip
    try simp only [b2_0, b2_n0] at c6
    refine e_bipush dX9_raise_11 (by decide) ?_
    refine e_iload_n dX9_raise_13 rfl rfl ?_
    refine e_imul dX9_raise_14 ?_
    refine e_iload_n dX9_raise_15 rfl rfl ?_
    refine e_iadd dX9_raise_16 ?_
    refine e_istore_n dX9_raise_17 rfl (by decide) rfl rfl ?_
    refine e_aload_n dX9_raise_18 rfl rfl ?_
    refine m_arr 15 dX9_raise_19 flX9_44 rfl hM (by decide) ?_
    refine e_bipush dX9_raise_22 (by decide) ?_
    refine e_iload_n dX9_raise_24 rfl rfl ?_
    have n6 := n5 s (by omega) (by omega)
    have hp := hp (by omega)
    have p1 := hp.1
    have p2 := hp.2.1
    refine e_imul dX9_raise_25 ?_
    refine e_aload_n dX9_raise_26 rfl rfl ?_
    refine m_arr 16 dX9_raise_27 flX9_47 rfl hM (by decide) ?_
    refine e_iload_n dX9_raise_30 rfl rfl ?_
    refine m_ld dX9_raise_31 hM (by decide) rfl (by omega) (by simp only [mL]; omega) (by (try simp (disch := omega) only [up_f, up_i, up_eq, tkO_16, tkO_f]); rfl) (fun r31 => ?_)
    refine e_iadd dX9_raise_32 ?_
    refine e_iconst dX9_raise_33 ?_
    refine e_isub dX9_raise_34 ?_
    refine m_ld dX9_raise_35 hM (by decide) rfl (by omega) (by simp only [mL]; omega) (by (try simp (disch := omega) only [up_f, up_i, up_eq, tkO_16, tkO_f]); rfl) (fun r35 => ?_)
    refine e_iload_n dX9_raise_36 rfl rfl ?_
    refine e_icmp_ne (tgt := 44) dX9_raise_37 (by decide) (by omega) (by omega) (fun c37 => ?_) (fun c37 => ?_)
    · skip
      refine e_iconst dX9_raise_44 ?_
      refine e_istore dX9_raise_45 (by decide) rfl rfl ?_
      refine e_aload_n dX9_raise_47 rfl rfl ?_
      refine e_iload_n dX9_raise_48 rfl rfl ?_
      refine e_iload_n dX9_raise_49 rfl rfl ?_
      refine e_callV (As := [zI _, zI _]) (cb := 10) dX9_raise_50 moX9_takeOut mvX9_takeOut mlX9_153 (by decide) rfl hM.1.1 rfl (Nat.le_of_ble_eq_true rfl) ⟨by decide, by decide, by decide, by decide⟩ (c_X9_takeOut hl hM.1 hN _ _ p (by omega) (by omega) (by omega) hp) (fun E h1 q => by cases q.1) (fun v h1 q => ?_)
      obtain ⟨e1, hM1, ht1⟩ := q; cases e1; have hM := MM_tr hM hM1; have ht : zf h1 1000 99 = _ := ht1.trans ht
      refine e_aload_n dX9_raise_53 rfl rfl ?_
      refine m_arr 15 dX9_raise_54 flX9_44 rfl hM (by decide) ?_
      refine e_bipush dX9_raise_57 (by decide) ?_
      refine e_iload_n dX9_raise_59 rfl rfl ?_
      refine e_imul dX9_raise_60 ?_
      refine e_aload_n dX9_raise_61 rfl rfl ?_
      refine m_arr 16 dX9_raise_62 flX9_47 rfl hM (by decide) ?_
      refine e_iload_n dX9_raise_65 rfl rfl ?_
      refine m_ld dX9_raise_66 hM (by decide) rfl (by omega) (by simp only [mL]; omega) (by (try simp (disch := omega) only [up_f, up_i, up_eq, tkO_16, tkO_f]); rfl) (fun r66 => ?_)
      refine e_iadd dX9_raise_67 ?_
      refine e_iload_n dX9_raise_68 rfl rfl ?_
      refine m_st dX9_raise_69 hM (by decide) rfl (by omega) (by simp only [mL]; omega) (by omega) (fun hM => ?_)
      refine e_aload_n dX9_raise_70 rfl rfl ?_
      refine m_arr 16 dX9_raise_71 flX9_47 rfl hM (by decide) ?_
      refine e_iload_n dX9_raise_74 rfl rfl ?_
      refine e_dup2 dX9_raise_75 rfl rfl ?_
      refine m_ld dX9_raise_76 hM (by decide) rfl (by omega) (by simp only [mL]; omega) (by (try simp (disch := omega) only [up_f, up_i, up_eq, tkO_16, tkO_f]); rfl) (fun r76 => ?_)
      refine e_iconst dX9_raise_77 ?_
      refine e_iadd dX9_raise_78 ?_
      refine m_st dX9_raise_79 hM (by decide) rfl (by omega) (by simp only [mL]; omega) (by omega) (fun hM => ?_)
      refine e_iload dX9_raise_80 rfl ?_
      refine e_if_ne (tgt := 89) dX9_raise_82 (by decide) (by omega) (fun c82 => ?_) (fun c82 => ?_)
      · skip
        exfalso; omega
      · skip
        refine e_iconst dX9_raise_85 ?_
        refine e_goto (tgt := 90) dX9_raise_86 (by decide) ?_
        refine e_iret dX9_raise_90 rfl (by first | exact Or.inl rfl | exact Or.inr rfl | assumption | exact b2_01) (by decide) (by decide) ?_
        first | exact absurd trivial c82 | exact QM_ok (ht.trans (b2_f (by omega))) (by first | (rw [if_neg (by omega)]; done) | (rw [if_neg (by omega), if_neg (by omega)]; done) | (rw [if_neg (by omega), if_neg (by omega), if_neg (by omega)]; done) | (rw [if_neg (by omega), if_neg (by omega), if_neg (by omega), if_neg (by omega)]; done)) (by first | rw [b2_t (by omega)] | rw [b2_f (by omega)]) hM
    · skip
      refine e_iconst dX9_raise_40 ?_
      refine e_goto (tgt := 45) dX9_raise_41 (by decide) ?_
      refine e_istore dX9_raise_45 (by decide) rfl rfl ?_
      refine e_aload_n dX9_raise_47 rfl rfl ?_
      refine e_iload_n dX9_raise_48 rfl rfl ?_
      refine e_iload_n dX9_raise_49 rfl rfl ?_
      refine e_callV (As := [zI _, zI _]) (cb := 10) dX9_raise_50 moX9_takeOut mvX9_takeOut mlX9_153 (by decide) rfl hM.1.1 rfl (Nat.le_of_ble_eq_true rfl) ⟨by decide, by decide, by decide, by decide⟩ (c_X9_takeOut hl hM.1 hN _ _ p (by omega) (by omega) (by omega) hp) (fun E h1 q => by cases q.1) (fun v h1 q => ?_)
      obtain ⟨e1, hM1, ht1⟩ := q; cases e1; have hM := MM_tr hM hM1; have ht : zf h1 1000 99 = _ := ht1.trans ht
      refine e_aload_n dX9_raise_53 rfl rfl ?_
      refine m_arr 15 dX9_raise_54 flX9_44 rfl hM (by decide) ?_
      refine e_bipush dX9_raise_57 (by decide) ?_
      refine e_iload_n dX9_raise_59 rfl rfl ?_
      refine e_imul dX9_raise_60 ?_
      refine e_aload_n dX9_raise_61 rfl rfl ?_
      refine m_arr 16 dX9_raise_62 flX9_47 rfl hM (by decide) ?_
      refine e_iload_n dX9_raise_65 rfl rfl ?_
      refine m_ld dX9_raise_66 hM (by decide) rfl (by omega) (by simp only [mL]; omega) (by (try simp (disch := omega) only [up_f, up_i, up_eq, tkO_16, tkO_f]); rfl) (fun r66 => ?_)
      refine e_iadd dX9_raise_67 ?_
      refine e_iload_n dX9_raise_68 rfl rfl ?_
      refine m_st dX9_raise_69 hM (by decide) rfl (by omega) (by simp only [mL]; omega) (by omega) (fun hM => ?_)
      refine e_aload_n dX9_raise_70 rfl rfl ?_
      refine m_arr 16 dX9_raise_71 flX9_47 rfl hM (by decide) ?_
      refine e_iload_n dX9_raise_74 rfl rfl ?_
      refine e_dup2 dX9_raise_75 rfl rfl ?_
      refine m_ld dX9_raise_76 hM (by decide) rfl (by omega) (by simp only [mL]; omega) (by (try simp (disch := omega) only [up_f, up_i, up_eq, tkO_16, tkO_f]); rfl) (fun r76 => ?_)
      refine e_iconst dX9_raise_77 ?_
      refine e_iadd dX9_raise_78 ?_
      refine m_st dX9_raise_79 hM (by decide) rfl (by omega) (by simp only [mL]; omega) (by omega) (fun hM => ?_)
      refine e_iload dX9_raise_80 rfl ?_
      refine e_if_ne (tgt := 89) dX9_raise_82 (by decide) (by omega) (fun c82 => ?_) (fun c82 => ?_)
      · skip
        refine e_iconst dX9_raise_89 ?_
        refine e_iret dX9_raise_90 rfl (by first | exact Or.inl rfl | exact Or.inr rfl | assumption | exact b2_01) (by decide) (by decide) ?_
        first | exact absurd trivial c82 | exact QM_ok (ht.trans (b2_f (by omega))) (by first | (rw [if_neg (by omega)]; done) | (rw [if_neg (by omega), if_neg (by omega)]; done) | (rw [if_neg (by omega), if_neg (by omega), if_neg (by omega)]; done) | (rw [if_neg (by omega), if_neg (by omega), if_neg (by omega), if_neg (by omega)]; done)) (by first | rw [b2_t (by omega)] | rw [b2_f (by omega)]) hM
      · skip
        exfalso; omega
  · skip
    try simp only [b2_0, b2_n0] at c6
    refine e_iconst dX9_raise_9 ?_
    refine e_iret dX9_raise_10 rfl (by first | exact Or.inl rfl | exact Or.inr rfl | assumption | exact b2_01) (by decide) (by decide) ?_
    exact QM_no (ht.trans (b2_t (by omega))) (by first | (rw [if_pos (by omega)]; done) | (rw [if_neg (by omega), if_pos (by omega)]; done) | (rw [if_neg (by omega), if_neg (by omega), if_pos (by omega)]; done) | (rw [if_neg (by omega), if_neg (by omega), if_neg (by omega), if_pos (by omega)]; done)) (by decide) hM
set_option maxHeartbeats 4000000 in
set_option maxRecDepth 100000 in
theorem c_X9_show {l : Launch} (hl : l.stackTraces = false) {S : S9} {h : zH} (hM : RM S h) (hN : IN S) (hI : IW S) (hO : IO S) (s w : Int) (hs : zin s) (hw : zin w) (v : Int) (hv : v = 0 ∨ v = 1) : zC l MX9_show [zR (some 99), zI s, zI w, zI v] h (QM S h (if ¬ isWn S s w then 1 else 0) (zI 0) (zI (S 11 (6 * s + w))) (up S 11 (6 * s + w) v)) := by
  refine zC_of hl rfl rfl (by decide) rfl rfl (Nat.le_of_ble_eq_true rfl) ?_
  have hM : MM S h h := MM_rf hM
  have hN2 := hN
  obtain ⟨n1, n2, n3, n4, n5⟩ := hN2
  refine e_aload_n dX9_show_0 rfl rfl ?_
  refine e_iload_n dX9_show_1 rfl rfl ?_
  refine e_iload_n dX9_show_2 rfl rfl ?_
  refine e_callV (As := [zI _, zI _]) (cb := 10) dX9_show_3 moX9_failsWindow mvX9_failsWindow mlX9_149 (by decide) rfl hM.1.1 rfl (Nat.le_of_ble_eq_true rfl) ⟨by decide, by decide, by decide, by decide⟩ (c_X9_failsWindow hl hM.1 hN _ _ hs hw) (fun E h1 q => by cases q.1) (fun v h1 q => ?_)
  obtain ⟨e1, e2⟩ := q; cases e1; have ht := thr e2; have hM := MM_thr hM e2
  refine e_if_eq (tgt := 11) dX9_show_6 (by decide) b2_in (fun c6 => ?_) (fun c6 => ?_)
  · skip
    try simp only [b2_0, b2_n0] at c6
    refine e_aload_n dX9_show_11 rfl rfl ?_
    refine m_arr 11 dX9_show_12 flX9_32 rfl hM (by decide) ?_
    refine e_bipush dX9_show_15 (by decide) ?_
    refine e_iload_n dX9_show_17 rfl rfl ?_
    have n6 := n5 s (by omega) (by omega)
    refine e_imul dX9_show_18 ?_
    refine e_iload_n dX9_show_19 rfl rfl ?_
    refine e_iadd dX9_show_20 ?_
    refine m_ldz dX9_show_21 hM (by decide) rfl (by omega) (by simp only [mL]; omega) rfl (fun r21 => ?_)
    refine e_istore dX9_show_22 (by decide) rfl rfl ?_
    refine e_aload_n dX9_show_24 rfl rfl ?_
    refine m_arr 11 dX9_show_25 flX9_32 rfl hM (by decide) ?_
    refine e_bipush dX9_show_28 (by decide) ?_
    refine e_iload_n dX9_show_30 rfl rfl ?_
    refine e_imul dX9_show_31 ?_
    refine e_iload_n dX9_show_32 rfl rfl ?_
    refine e_iadd dX9_show_33 ?_
    refine e_iload_n dX9_show_34 rfl rfl ?_
    refine m_stz dX9_show_35 hM (by decide) rfl (by omega) (by simp only [mL]; omega) (by first | exact Or.inl rfl | exact Or.inr rfl | assumption) (fun hM => ?_)
    refine e_iload dX9_show_36 rfl ?_
    refine e_iret dX9_show_38 rfl (by first | exact Or.inl rfl | exact Or.inr rfl | assumption | exact b2_01) (by decide) (by decide) ?_
    exact QM_ok (ht.trans (b2_f (by omega))) (by first | (rw [if_neg (by omega)]; done) | (rw [if_neg (by omega), if_neg (by omega)]; done) | (rw [if_neg (by omega), if_neg (by omega), if_neg (by omega)]; done) | (rw [if_neg (by omega), if_neg (by omega), if_neg (by omega), if_neg (by omega)]; done)) rfl hM
  · skip
    try simp only [b2_0, b2_n0] at c6
    refine e_iconst dX9_show_9 ?_
    refine e_iret dX9_show_10 rfl (by first | exact Or.inl rfl | exact Or.inr rfl | assumption | exact b2_01) (by decide) (by decide) ?_
    exact QM_no (ht.trans (b2_t (by omega))) (by first | (rw [if_pos (by omega)]; done) | (rw [if_neg (by omega), if_pos (by omega)]; done) | (rw [if_neg (by omega), if_neg (by omega), if_pos (by omega)]; done) | (rw [if_neg (by omega), if_neg (by omega), if_neg (by omega), if_pos (by omega)]; done)) (by decide) hM
set_option maxHeartbeats 4000000 in
set_option maxRecDepth 100000 in
theorem c_X9_mark {l : Launch} (hl : l.stackTraces = false) {S : S9} {h : zH} (hM : RM S h) (hN : IN S) (hI : IW S) (hO : IO S) (s w : Int) (hs : zin s) (hw : zin w) (v u : Int) (hv : v = 0 ∨ v = 1) (hu : u = 0 ∨ u = 1) : zC l MX9_mark [zR (some 99), zI s, zI w, zI v, zI u] h (QM S h (if ¬ isWn S s w then 1 else 0) (zI 0) (zI (b2 (S 12 (6 * s + w) ≠ v ∨ S 13 (6 * s + w) ≠ u))) (up (up S 12 (6 * s + w) v) 13 (6 * s + w) u)) := by
  refine zC_of hl rfl rfl (by decide) rfl rfl (Nat.le_of_ble_eq_true rfl) ?_
  have hM : MM S h h := MM_rf hM
  have hN2 := hN
  obtain ⟨n1, n2, n3, n4, n5⟩ := hN2
  refine e_aload_n dX9_mark_0 rfl rfl ?_
  refine e_iload_n dX9_mark_1 rfl rfl ?_
  refine e_iload_n dX9_mark_2 rfl rfl ?_
  refine e_callV (As := [zI _, zI _]) (cb := 10) dX9_mark_3 moX9_failsWindow mvX9_failsWindow mlX9_149 (by decide) rfl hM.1.1 rfl (Nat.le_of_ble_eq_true rfl) ⟨by decide, by decide, by decide, by decide⟩ (c_X9_failsWindow hl hM.1 hN _ _ hs hw) (fun E h1 q => by cases q.1) (fun v h1 q => ?_)
  obtain ⟨e1, e2⟩ := q; cases e1; have ht := thr e2; have hM := MM_thr hM e2
  refine e_if_eq (tgt := 11) dX9_mark_6 (by decide) b2_in (fun c6 => ?_) (fun c6 => ?_)
  · skip
    try simp only [b2_0, b2_n0] at c6
    refine e_bipush dX9_mark_11 (by decide) ?_
    refine e_iload_n dX9_mark_13 rfl rfl ?_
    have n6 := n5 s (by omega) (by omega)
    refine e_imul dX9_mark_14 ?_
    refine e_iload_n dX9_mark_15 rfl rfl ?_
    refine e_iadd dX9_mark_16 ?_
    refine e_istore dX9_mark_17 (by decide) rfl rfl ?_
    refine e_aload_n dX9_mark_19 rfl rfl ?_
    refine m_arr 12 dX9_mark_20 flX9_35 rfl hM (by decide) ?_
    refine e_iload dX9_mark_23 rfl ?_
    refine m_ldz dX9_mark_25 hM (by decide) rfl (by omega) (by simp only [mL]; omega) rfl (fun r25 => ?_)
    refine e_iload_n dX9_mark_26 rfl rfl ?_
    refine e_icmp_ne (tgt := 42) dX9_mark_27 (by decide) (by omega) (by omega) (fun c27 => ?_) (fun c27 => ?_)
    · skip
      refine e_iconst dX9_mark_42 ?_
      refine e_goto (tgt := 47) dX9_mark_43 (by decide) ?_
      refine e_istore dX9_mark_47 (by decide) rfl rfl ?_
      refine e_aload_n dX9_mark_49 rfl rfl ?_
      refine m_arr 12 dX9_mark_50 flX9_35 rfl hM (by decide) ?_
      refine e_iload dX9_mark_53 rfl ?_
      refine e_iload_n dX9_mark_55 rfl rfl ?_
      refine m_stz dX9_mark_56 hM (by decide) rfl (by omega) (by simp only [mL]; omega) (by first | exact Or.inl rfl | exact Or.inr rfl | assumption) (fun hM => ?_)
      refine e_aload_n dX9_mark_57 rfl rfl ?_
      refine m_arr 13 dX9_mark_58 flX9_38 rfl hM (by decide) ?_
      refine e_iload dX9_mark_61 rfl ?_
      refine e_iload dX9_mark_63 rfl ?_
      refine m_stz dX9_mark_65 hM (by decide) rfl (by omega) (by simp only [mL]; omega) (by first | exact Or.inl rfl | exact Or.inr rfl | assumption) (fun hM => ?_)
      refine e_iload dX9_mark_66 rfl ?_
      refine e_iret dX9_mark_68 rfl (by first | exact Or.inl rfl | exact Or.inr rfl | assumption | exact b2_01) (by decide) (by decide) ?_
      exact QM_ok (ht.trans (b2_f (by omega))) (by first | (rw [if_neg (by omega)]; done) | (rw [if_neg (by omega), if_neg (by omega)]; done) | (rw [if_neg (by omega), if_neg (by omega), if_neg (by omega)]; done) | (rw [if_neg (by omega), if_neg (by omega), if_neg (by omega), if_neg (by omega)]; done)) (by first | rw [b2_t (by omega)] | rw [b2_f (by omega)]) hM
    · skip
      refine e_aload_n dX9_mark_30 rfl rfl ?_
      refine m_arr 13 dX9_mark_31 flX9_38 rfl hM (by decide) ?_
      refine e_iload dX9_mark_34 rfl ?_
      refine m_ldz dX9_mark_36 hM (by decide) rfl (by omega) (by simp only [mL]; omega) rfl (fun r36 => ?_)
      refine e_iload dX9_mark_37 rfl ?_
      refine e_icmp_eq (tgt := 46) dX9_mark_39 (by decide) (by omega) (by omega) (fun c39 => ?_) (fun c39 => ?_)
      · skip
        refine e_iconst dX9_mark_46 ?_
        refine e_istore dX9_mark_47 (by decide) rfl rfl ?_
        refine e_aload_n dX9_mark_49 rfl rfl ?_
        refine m_arr 12 dX9_mark_50 flX9_35 rfl hM (by decide) ?_
        refine e_iload dX9_mark_53 rfl ?_
        refine e_iload_n dX9_mark_55 rfl rfl ?_
        refine m_stz dX9_mark_56 hM (by decide) rfl (by omega) (by simp only [mL]; omega) (by first | exact Or.inl rfl | exact Or.inr rfl | assumption) (fun hM => ?_)
        refine e_aload_n dX9_mark_57 rfl rfl ?_
        refine m_arr 13 dX9_mark_58 flX9_38 rfl hM (by decide) ?_
        refine e_iload dX9_mark_61 rfl ?_
        refine e_iload dX9_mark_63 rfl ?_
        refine m_stz dX9_mark_65 hM (by decide) rfl (by omega) (by simp only [mL]; omega) (by first | exact Or.inl rfl | exact Or.inr rfl | assumption) (fun hM => ?_)
        refine e_iload dX9_mark_66 rfl ?_
        refine e_iret dX9_mark_68 rfl (by first | exact Or.inl rfl | exact Or.inr rfl | assumption | exact b2_01) (by decide) (by decide) ?_
        exact QM_ok (ht.trans (b2_f (by omega))) (by first | (rw [if_neg (by omega)]; done) | (rw [if_neg (by omega), if_neg (by omega)]; done) | (rw [if_neg (by omega), if_neg (by omega), if_neg (by omega)]; done) | (rw [if_neg (by omega), if_neg (by omega), if_neg (by omega), if_neg (by omega)]; done)) (by first | rw [b2_t (by omega)] | rw [b2_f (by omega)]) hM
      · skip
        refine e_iconst dX9_mark_42 ?_
        refine e_goto (tgt := 47) dX9_mark_43 (by decide) ?_
        refine e_istore dX9_mark_47 (by decide) rfl rfl ?_
        refine e_aload_n dX9_mark_49 rfl rfl ?_
        refine m_arr 12 dX9_mark_50 flX9_35 rfl hM (by decide) ?_
        refine e_iload dX9_mark_53 rfl ?_
        refine e_iload_n dX9_mark_55 rfl rfl ?_
        refine m_stz dX9_mark_56 hM (by decide) rfl (by omega) (by simp only [mL]; omega) (by first | exact Or.inl rfl | exact Or.inr rfl | assumption) (fun hM => ?_)
        refine e_aload_n dX9_mark_57 rfl rfl ?_
        refine m_arr 13 dX9_mark_58 flX9_38 rfl hM (by decide) ?_
        refine e_iload dX9_mark_61 rfl ?_
        refine e_iload dX9_mark_63 rfl ?_
        refine m_stz dX9_mark_65 hM (by decide) rfl (by omega) (by simp only [mL]; omega) (by first | exact Or.inl rfl | exact Or.inr rfl | assumption) (fun hM => ?_)
        refine e_iload dX9_mark_66 rfl ?_
        refine e_iret dX9_mark_68 rfl (by first | exact Or.inl rfl | exact Or.inr rfl | assumption | exact b2_01) (by decide) (by decide) ?_
        exact QM_ok (ht.trans (b2_f (by omega))) (by first | (rw [if_neg (by omega)]; done) | (rw [if_neg (by omega), if_neg (by omega)]; done) | (rw [if_neg (by omega), if_neg (by omega), if_neg (by omega)]; done) | (rw [if_neg (by omega), if_neg (by omega), if_neg (by omega), if_neg (by omega)]; done)) (by first | rw [b2_t (by omega)] | rw [b2_f (by omega)]) hM
  · skip
    try simp only [b2_0, b2_n0] at c6
    refine e_iconst dX9_mark_9 ?_
    refine e_iret dX9_mark_10 rfl (by first | exact Or.inl rfl | exact Or.inr rfl | assumption | exact b2_01) (by decide) (by decide) ?_
    exact QM_no (ht.trans (b2_t (by omega))) (by first | (rw [if_pos (by omega)]; done) | (rw [if_neg (by omega), if_pos (by omega)]; done) | (rw [if_neg (by omega), if_neg (by omega), if_pos (by omega)]; done) | (rw [if_neg (by omega), if_neg (by omega), if_neg (by omega), if_pos (by omega)]; done)) (by decide) hM
set_option maxHeartbeats 4000000 in
set_option maxRecDepth 100000 in
theorem c_X9_isCell {l : Launch} (hl : l.stackTraces = false) {h : zH} (x y : Int) (hx : zin x) (hy : zin y) : zC l MX9_isCell [zI x, zI y] h (fun o h' => o = .inl (some (zI (b2 (isXY x y)))) ∧ h' = h) := by
  refine zC_of hl rfl rfl (by decide) rfl rfl (Nat.le_of_ble_eq_true rfl) ?_
  refine e_iload_n dX9_isCell_0 rfl rfl ?_
  refine e_iconst dX9_isCell_1 ?_
  refine e_bipush dX9_isCell_2 (by decide) ?_
  refine e_callS (As := [zI _, zI _, zI _]) dX9_isCell_4 moX9_in msX9_in mlX9_139 rfl (Nat.le_of_ble_eq_true rfl) ⟨by decide, by decide, by decide, by decide⟩ (c_X9_in hl _ _ _ (by omega) (by omega) (by omega)) (fun E h1 q => by cases q.1) (fun v h9 q => ?_)
  obtain ⟨e1, e2⟩ := q; cases e1; rw [e2]; clear e2 h9
  refine e_if_eq (tgt := 24) dX9_isCell_7 (by decide) b2_in (fun c7 => ?_) (fun c7 => ?_)
  · skip
    try simp only [b2_0, b2_n0] at c7
    refine e_iconst dX9_isCell_24 ?_
    refine e_iret dX9_isCell_25 rfl (by first | exact Or.inl rfl | exact Or.inr rfl | assumption | exact b2_01) (by decide) (by decide) ?_
    exact ⟨zqe (by first | exact (b2_t (by omega)).symm | exact (b2_f (by omega)).symm), rfl⟩
  · skip
    try simp only [b2_0, b2_n0] at c7
    refine e_iload_n dX9_isCell_10 rfl rfl ?_
    refine e_iconst dX9_isCell_11 ?_
    refine e_bipush dX9_isCell_12 (by decide) ?_
    refine e_callS (As := [zI _, zI _, zI _]) dX9_isCell_14 moX9_in msX9_in mlX9_139 rfl (Nat.le_of_ble_eq_true rfl) ⟨by decide, by decide, by decide, by decide⟩ (c_X9_in hl _ _ _ (by omega) (by omega) (by omega)) (fun E h1 q => by cases q.1) (fun v h9 q => ?_)
    obtain ⟨e1, e2⟩ := q; cases e1; rw [e2]; clear e2 h9
    refine e_if_eq (tgt := 24) dX9_isCell_17 (by decide) b2_in (fun c17 => ?_) (fun c17 => ?_)
    · skip
      try simp only [b2_0, b2_n0] at c17
      refine e_iconst dX9_isCell_24 ?_
      refine e_iret dX9_isCell_25 rfl (by first | exact Or.inl rfl | exact Or.inr rfl | assumption | exact b2_01) (by decide) (by decide) ?_
      exact ⟨zqe (by first | exact (b2_t (by omega)).symm | exact (b2_f (by omega)).symm), rfl⟩
    · skip
      try simp only [b2_0, b2_n0] at c17
      refine e_iconst dX9_isCell_20 ?_
      refine e_goto (tgt := 25) dX9_isCell_21 (by decide) ?_
      refine e_iret dX9_isCell_25 rfl (by first | exact Or.inl rfl | exact Or.inr rfl | assumption | exact b2_01) (by decide) (by decide) ?_
      exact ⟨zqe (by first | exact (b2_t (by omega)).symm | exact (b2_f (by omega)).symm), rfl⟩
set_option maxHeartbeats 4000000 in
set_option maxRecDepth 100000 in
theorem c_X9_screen {l : Launch} (hl : l.stackTraces = false) {S : S9} {h : zH} (hM : RM S h) (hN : IN S) (hI : IW S) (hO : IO S) (s x y : Int) (hs : zin s) (hx : zin x) (hy : zin y) : zC l MX9_screen [zR (some 99), zI s, zI x, zI y] h (QM S h (if ¬ (isS S s ∧ isXY x y) then 1 else 0) (zI 0) (zI (screenAt S s (y * 12 + x))) S) := by
  refine zC_of hl rfl rfl (by decide) rfl rfl (Nat.le_of_ble_eq_true rfl) ?_
  have hM : MM S h h := MM_rf hM
  have hN2 := hN
  obtain ⟨n1, n2, n3, n4, n5⟩ := hN2
  refine e_aload_n dX9_screen_0 rfl rfl ?_
  refine e_aload_n dX9_screen_1 rfl rfl ?_
  refine e_iload_n dX9_screen_2 rfl rfl ?_
  refine e_callV (As := [zI _]) (cb := 10) dX9_screen_3 moX9_isSession mvX9_isSession mlX9_143 (by decide) rfl hM.1.1 rfl (Nat.le_of_ble_eq_true rfl) ⟨by decide, by decide, by decide, by decide⟩ (c_X9_isSession hl hM.1 hN _ hs) (fun E h1 q => by cases q.1) (fun v h9 q => ?_)
  obtain ⟨e1, e2⟩ := q; cases e1; rw [e2]; clear e2 h9
  refine e_if_eq (tgt := 21) dX9_screen_6 (by decide) b2_in (fun c6 => ?_) (fun c6 => ?_)
  · skip
    try simp only [b2_0, b2_n0] at c6
    refine e_iconst dX9_screen_21 ?_
    refine e_callV (As := [zI _]) (cb := 10) dX9_screen_22 moX9_fails mvX9_fails mlX9_135 (by decide) rfl hM.1.1 rfl (Nat.le_of_ble_eq_true rfl) ⟨by decide, by decide, by decide, by decide⟩ (c_X9_fails hl hM.1 _ (by first | omega | exact b2_in)) (fun E h1 q => by cases q.1) (fun v h1 q => ?_)
    obtain ⟨e1, e2⟩ := q; cases e1; have ht := thr e2; have hM := MM_thr hM e2
    refine e_if_eq (tgt := 32) dX9_screen_25 (by decide) b2_in (fun c25 => ?_) (fun c25 => ?_)
    · skip
      try simp only [b2_0, b2_n0] at c25
      exfalso; omega
    · skip
      try simp only [b2_0, b2_n0] at c25
      refine e_iconst dX9_screen_28 ?_
      refine e_goto (tgt := 43) dX9_screen_29 (by decide) ?_
      refine e_iret dX9_screen_43 rfl trivial (by decide) (by decide) ?_
      first | exact QM_no ht (by first | (rw [if_pos (by omega)]; done) | (rw [if_neg (by omega), if_pos (by omega)]; done) | (rw [if_neg (by omega), if_neg (by omega), if_pos (by omega)]; done) | (rw [if_neg (by omega), if_neg (by omega), if_neg (by omega), if_pos (by omega)]; done)) (by decide) hM | exact QM_ok ht (by first | (rw [if_neg (by omega)]; done) | (rw [if_neg (by omega), if_neg (by omega)]; done) | (rw [if_neg (by omega), if_neg (by omega), if_neg (by omega)]; done) | (rw [if_neg (by omega), if_neg (by omega), if_neg (by omega), if_neg (by omega)]; done)) rfl hM
  · skip
    try simp only [b2_0, b2_n0] at c6
    refine e_iload_n dX9_screen_9 rfl rfl ?_
    refine e_iload_n dX9_screen_10 rfl rfl ?_
    refine e_callS (As := [zI _, zI _]) dX9_screen_11 moX9_isCell msX9_isCell mlX9_171 rfl (Nat.le_of_ble_eq_true rfl) ⟨by decide, by decide, by decide, by decide⟩ (c_X9_isCell hl _ _ hx hy) (fun E h1 q => by cases q.1) (fun v h9 q => ?_)
    obtain ⟨e1, e2⟩ := q; cases e1; rw [e2]; clear e2 h9
    refine e_if_eq (tgt := 21) dX9_screen_14 (by decide) b2_in (fun c14 => ?_) (fun c14 => ?_)
    · skip
      try simp only [b2_0, b2_n0] at c14
      refine e_iconst dX9_screen_21 ?_
      refine e_callV (As := [zI _]) (cb := 10) dX9_screen_22 moX9_fails mvX9_fails mlX9_135 (by decide) rfl hM.1.1 rfl (Nat.le_of_ble_eq_true rfl) ⟨by decide, by decide, by decide, by decide⟩ (c_X9_fails hl hM.1 _ (by first | omega | exact b2_in)) (fun E h1 q => by cases q.1) (fun v h1 q => ?_)
      obtain ⟨e1, e2⟩ := q; cases e1; have ht := thr e2; have hM := MM_thr hM e2
      refine e_if_eq (tgt := 32) dX9_screen_25 (by decide) b2_in (fun c25 => ?_) (fun c25 => ?_)
      · skip
        try simp only [b2_0, b2_n0] at c25
        exfalso; omega
      · skip
        try simp only [b2_0, b2_n0] at c25
        refine e_iconst dX9_screen_28 ?_
        refine e_goto (tgt := 43) dX9_screen_29 (by decide) ?_
        refine e_iret dX9_screen_43 rfl trivial (by decide) (by decide) ?_
        first | exact QM_no ht (by first | (rw [if_pos (by omega)]; done) | (rw [if_neg (by omega), if_pos (by omega)]; done) | (rw [if_neg (by omega), if_neg (by omega), if_pos (by omega)]; done) | (rw [if_neg (by omega), if_neg (by omega), if_neg (by omega), if_pos (by omega)]; done)) (by decide) hM | exact QM_ok ht (by first | (rw [if_neg (by omega)]; done) | (rw [if_neg (by omega), if_neg (by omega)]; done) | (rw [if_neg (by omega), if_neg (by omega), if_neg (by omega)]; done) | (rw [if_neg (by omega), if_neg (by omega), if_neg (by omega), if_neg (by omega)]; done)) rfl hM
    · skip
      try simp only [b2_0, b2_n0] at c14
      refine e_iconst dX9_screen_17 ?_
      refine e_goto (tgt := 22) dX9_screen_18 (by decide) ?_
      refine e_callV (As := [zI _]) (cb := 10) dX9_screen_22 moX9_fails mvX9_fails mlX9_135 (by decide) rfl hM.1.1 rfl (Nat.le_of_ble_eq_true rfl) ⟨by decide, by decide, by decide, by decide⟩ (c_X9_fails hl hM.1 _ (by first | omega | exact b2_in)) (fun E h1 q => by cases q.1) (fun v h1 q => ?_)
      obtain ⟨e1, e2⟩ := q; cases e1; have ht := thr e2; have hM := MM_thr hM e2
      refine e_if_eq (tgt := 32) dX9_screen_25 (by decide) b2_in (fun c25 => ?_) (fun c25 => ?_)
      · skip
        try simp only [b2_0, b2_n0] at c25
        refine e_aload_n dX9_screen_32 rfl rfl ?_
        refine e_iload_n dX9_screen_33 rfl rfl ?_
        refine e_iload_n dX9_screen_34 rfl rfl ?_
        refine e_bipush dX9_screen_35 (by decide) ?_
        refine e_imul dX9_screen_37 ?_
        refine e_iload_n dX9_screen_38 rfl rfl ?_
        refine e_iadd dX9_screen_39 ?_
        refine e_callV (As := [zI _, zI _]) (cb := 10) dX9_screen_40 moX9_screenAt mvX9_screenAt mlX9_164 (by decide) rfl hM.1.1 rfl (Nat.le_of_ble_eq_true rfl) ⟨by decide, by decide, by decide, by decide⟩ (c_X9_screenAt hl hM.1 hN hI hO _ _ (by omega) (by omega) (by omega) (by omega)) (fun E h1 q => by cases q.1) (fun v h9 q => ?_)
        obtain ⟨e1, e2⟩ := q; cases e1; rw [e2]; clear e2 h9
        refine e_iret dX9_screen_43 rfl trivial (by decide) (by decide) ?_
        first | exact QM_no ht (by first | (rw [if_pos (by omega)]; done) | (rw [if_neg (by omega), if_pos (by omega)]; done) | (rw [if_neg (by omega), if_neg (by omega), if_pos (by omega)]; done) | (rw [if_neg (by omega), if_neg (by omega), if_neg (by omega), if_pos (by omega)]; done)) (by decide) hM | exact QM_ok ht (by first | (rw [if_neg (by omega)]; done) | (rw [if_neg (by omega), if_neg (by omega)]; done) | (rw [if_neg (by omega), if_neg (by omega), if_neg (by omega)]; done) | (rw [if_neg (by omega), if_neg (by omega), if_neg (by omega), if_neg (by omega)]; done)) rfl hM
      · skip
        try simp only [b2_0, b2_n0] at c25
        exfalso; omega
