set_option maxHeartbeats 4000000 in
set_option maxRecDepth 100000 in
theorem c_X9_isWithin {l : Launch} (hl : l.stackTraces = false) {h : zH} (x y w t : Int) (h1 : -100 ≤ x ∧ x ≤ 100) (h2 : -100 ≤ y ∧ y ≤ 100) (h3 : 0 ≤ w ∧ w ≤ 100) (h4 : 0 ≤ t ∧ t ≤ 100) : zC l MX9_isWithin [zI x, zI y, zI w, zI t] h (fun o h' => o = .inl (some (zI (b2 (vld x y w t)))) ∧ h' = h) := by
  refine zC_of hl rfl rfl (by decide) rfl rfl (Nat.le_of_ble_eq_true rfl) ?_
  refine e_iload_n dX9_isWithin_0 rfl rfl ?_
  refine e_if_lt (tgt := 28) dX9_isWithin_1 (by decide) (by omega) (fun c1 => ?_) (fun c1 => ?_)
  · skip
    refine e_iconst dX9_isWithin_28 ?_
    refine e_iret dX9_isWithin_29 rfl (by first | exact Or.inl rfl | exact Or.inr rfl | assumption | exact b2_01) (by decide) (by decide) ?_
    exact ⟨zqe (by first | exact (b2_t (by omega)).symm | exact (b2_f (by omega)).symm), rfl⟩
  · skip
    refine e_iload_n dX9_isWithin_4 rfl rfl ?_
    refine e_if_lt (tgt := 28) dX9_isWithin_5 (by decide) (by omega) (fun c5 => ?_) (fun c5 => ?_)
    · skip
      refine e_iconst dX9_isWithin_28 ?_
      refine e_iret dX9_isWithin_29 rfl (by first | exact Or.inl rfl | exact Or.inr rfl | assumption | exact b2_01) (by decide) (by decide) ?_
      exact ⟨zqe (by first | exact (b2_t (by omega)).symm | exact (b2_f (by omega)).symm), rfl⟩
    · skip
      refine e_iload_n dX9_isWithin_8 rfl rfl ?_
      refine e_iload_n dX9_isWithin_9 rfl rfl ?_
      refine e_iadd dX9_isWithin_10 ?_
      refine e_bipush dX9_isWithin_11 (by decide) ?_
      refine e_icmp_gt (tgt := 28) dX9_isWithin_13 (by decide) (by omega) (by omega) (fun c13 => ?_) (fun c13 => ?_)
      · skip
        refine e_iconst dX9_isWithin_28 ?_
        refine e_iret dX9_isWithin_29 rfl (by first | exact Or.inl rfl | exact Or.inr rfl | assumption | exact b2_01) (by decide) (by decide) ?_
        exact ⟨zqe (by first | exact (b2_t (by omega)).symm | exact (b2_f (by omega)).symm), rfl⟩
      · skip
        refine e_iload_n dX9_isWithin_16 rfl rfl ?_
        refine e_iload_n dX9_isWithin_17 rfl rfl ?_
        refine e_iadd dX9_isWithin_18 ?_
        refine e_bipush dX9_isWithin_19 (by decide) ?_
        refine e_icmp_gt (tgt := 28) dX9_isWithin_21 (by decide) (by omega) (by omega) (fun c21 => ?_) (fun c21 => ?_)
        · skip
          refine e_iconst dX9_isWithin_28 ?_
          refine e_iret dX9_isWithin_29 rfl (by first | exact Or.inl rfl | exact Or.inr rfl | assumption | exact b2_01) (by decide) (by decide) ?_
          exact ⟨zqe (by first | exact (b2_t (by omega)).symm | exact (b2_f (by omega)).symm), rfl⟩
        · skip
          refine e_iconst dX9_isWithin_24 ?_
          refine e_goto (tgt := 29) dX9_isWithin_25 (by decide) ?_
          refine e_iret dX9_isWithin_29 rfl (by first | exact Or.inl rfl | exact Or.inr rfl | assumption | exact b2_01) (by decide) (by decide) ?_
          exact ⟨zqe (by first | exact (b2_t (by omega)).symm | exact (b2_f (by omega)).symm), rfl⟩
set_option maxHeartbeats 4000000 in
set_option maxRecDepth 100000 in
theorem c_X9_gain {l : Launch} (hl : l.stackTraces = false) {S : S9} {h : zH} (hM : RM S h) {h0 : zH} {P R : Int → Int} {b : T6} {pl : Int} (hF : FB S R h0 h b pl) (c p e : Int) (hc : 0 ≤ c ∧ c < 6) (hP : ∀ q, S 40 (96 * c + q) = P q) (hp : 0 ≤ p ∧ p < 96) (he : zin e) : zC l MX9_gain [zR (some 99), zI c, zI p, zI e] h (fun o h' => o = .inl (some (zI (gn P R p e))) ∧ h' = h) := by
  refine zC_of hl rfl rfl (by decide) rfl rfl (Nat.le_of_ble_eq_true rfl) ?_
  have hM : MM S h h := MM_rf hM
  have hM := hF.1
  refine e_aload_n dX9_gain_0 rfl rfl ?_
  refine m_arr 40 dX9_gain_1 flX9_119 rfl hM (by decide) ?_
  refine e_bipush dX9_gain_4 (by decide) ?_
  refine e_iload_n dX9_gain_6 rfl rfl ?_
  refine e_imul dX9_gain_7 ?_
  refine e_iload_n dX9_gain_8 rfl rfl ?_
  refine e_iadd dX9_gain_9 ?_
  refine m_ld dX9_gain_10 hM (by decide) rfl (by omega) (by simp only [mL]; omega) (hP p) (fun r10 => ?_)
  refine e_aload_n dX9_gain_11 rfl rfl ?_
  refine m_arr 41 dX9_gain_12 flX9_122 rfl hM (by decide) ?_
  refine e_iload_n dX9_gain_15 rfl rfl ?_
  refine m_ldX dX9_gain_16 hM (by decide) (by omega) (by omega) (hF.2.1 p hp.1 hp.2) (fun r16 => ?_)
  refine e_icmp_ne (tgt := 24) dX9_gain_17 (by decide) (by omega) (by omega) (fun c17 => ?_) (fun c17 => ?_)
  · skip
    refine e_iconst dX9_gain_24 ?_
    refine e_istore dX9_gain_25 (by decide) rfl rfl ?_
    refine e_iload_n dX9_gain_27 rfl rfl ?_
    refine e_aload_n dX9_gain_28 rfl rfl ?_
    refine m_arr 41 dX9_gain_29 flX9_122 rfl hM (by decide) ?_
    refine e_iload_n dX9_gain_32 rfl rfl ?_
    refine m_ldX dX9_gain_33 hM (by decide) (by omega) (by omega) (hF.2.1 p hp.1 hp.2) (fun r33 => ?_)
    refine e_icmp_ne (tgt := 41) dX9_gain_34 (by decide) (by omega) (by omega) (fun c34 => ?_) (fun c34 => ?_)
    · skip
      refine e_iconst dX9_gain_41 ?_
      refine e_istore dX9_gain_42 (by decide) rfl rfl ?_
      refine e_iload dX9_gain_44 rfl ?_
      refine e_iload dX9_gain_46 rfl ?_
      refine e_icmp_ne (tgt := 55) dX9_gain_48 (by decide) (by omega) (by omega) (fun c48 => ?_) (fun c48 => ?_)
      · skip
        refine e_iload dX9_gain_55 rfl ?_
        refine e_if_eq (tgt := 64) dX9_gain_57 (by decide) (by omega) (fun c57 => ?_) (fun c57 => ?_)
        · skip
          refine e_iconst dX9_gain_64 ?_
          refine e_iret dX9_gain_65 rfl trivial (by decide) (by decide) ?_
          first | (exfalso; omega) | exact absurd trivial c57 | exact ⟨zqe (by unfold gn; first | (rw [b2_t (p := e = R p) (by omega), b2_t (p := P p = R p) (by omega)]; decide) | (rw [b2_t (p := e = R p) (by omega), b2_f (p := P p = R p) (by omega)]; decide) | (rw [b2_f (p := e = R p) (by omega), b2_t (p := P p = R p) (by omega)]; decide) | (rw [b2_f (p := e = R p) (by omega), b2_f (p := P p = R p) (by omega)]; decide)), rfl⟩
        · skip
          exfalso; omega
      · skip
        refine e_iconst dX9_gain_51 ?_
        refine e_goto (tgt := 65) dX9_gain_52 (by decide) ?_
        refine e_iret dX9_gain_65 rfl trivial (by decide) (by decide) ?_
        first | (exfalso; omega) | exact absurd trivial c57 | exact ⟨zqe (by unfold gn; first | (rw [b2_t (p := e = R p) (by omega), b2_t (p := P p = R p) (by omega)]; decide) | (rw [b2_t (p := e = R p) (by omega), b2_f (p := P p = R p) (by omega)]; decide) | (rw [b2_f (p := e = R p) (by omega), b2_t (p := P p = R p) (by omega)]; decide) | (rw [b2_f (p := e = R p) (by omega), b2_f (p := P p = R p) (by omega)]; decide)), rfl⟩
    · skip
      refine e_iconst dX9_gain_37 ?_
      refine e_goto (tgt := 42) dX9_gain_38 (by decide) ?_
      refine e_istore dX9_gain_42 (by decide) rfl rfl ?_
      refine e_iload dX9_gain_44 rfl ?_
      refine e_iload dX9_gain_46 rfl ?_
      refine e_icmp_ne (tgt := 55) dX9_gain_48 (by decide) (by omega) (by omega) (fun c48 => ?_) (fun c48 => ?_)
      · skip
        refine e_iload dX9_gain_55 rfl ?_
        refine e_if_eq (tgt := 64) dX9_gain_57 (by decide) (by omega) (fun c57 => ?_) (fun c57 => ?_)
        · skip
          exfalso; omega
        · skip
          refine e_iconst dX9_gain_60 ?_
          refine e_goto (tgt := 65) dX9_gain_61 (by decide) ?_
          refine e_iret dX9_gain_65 rfl trivial (by decide) (by decide) ?_
          first | (exfalso; omega) | exact absurd trivial c57 | exact ⟨zqe (by unfold gn; first | (rw [b2_t (p := e = R p) (by omega), b2_t (p := P p = R p) (by omega)]; decide) | (rw [b2_t (p := e = R p) (by omega), b2_f (p := P p = R p) (by omega)]; decide) | (rw [b2_f (p := e = R p) (by omega), b2_t (p := P p = R p) (by omega)]; decide) | (rw [b2_f (p := e = R p) (by omega), b2_f (p := P p = R p) (by omega)]; decide)), rfl⟩
      · skip
        refine e_iconst dX9_gain_51 ?_
        refine e_goto (tgt := 65) dX9_gain_52 (by decide) ?_
        refine e_iret dX9_gain_65 rfl trivial (by decide) (by decide) ?_
        first | (exfalso; omega) | exact absurd trivial c57 | exact ⟨zqe (by unfold gn; first | (rw [b2_t (p := e = R p) (by omega), b2_t (p := P p = R p) (by omega)]; decide) | (rw [b2_t (p := e = R p) (by omega), b2_f (p := P p = R p) (by omega)]; decide) | (rw [b2_f (p := e = R p) (by omega), b2_t (p := P p = R p) (by omega)]; decide) | (rw [b2_f (p := e = R p) (by omega), b2_f (p := P p = R p) (by omega)]; decide)), rfl⟩
  · skip
    refine e_iconst dX9_gain_20 ?_
    refine e_goto (tgt := 25) dX9_gain_21 (by decide) ?_
    refine e_istore dX9_gain_25 (by decide) rfl rfl ?_
    refine e_iload_n dX9_gain_27 rfl rfl ?_
    refine e_aload_n dX9_gain_28 rfl rfl ?_
    refine m_arr 41 dX9_gain_29 flX9_122 rfl hM (by decide) ?_
    refine e_iload_n dX9_gain_32 rfl rfl ?_
    refine m_ldX dX9_gain_33 hM (by decide) (by omega) (by omega) (hF.2.1 p hp.1 hp.2) (fun r33 => ?_)
    refine e_icmp_ne (tgt := 41) dX9_gain_34 (by decide) (by omega) (by omega) (fun c34 => ?_) (fun c34 => ?_)
    · skip
      refine e_iconst dX9_gain_41 ?_
      refine e_istore dX9_gain_42 (by decide) rfl rfl ?_
      refine e_iload dX9_gain_44 rfl ?_
      refine e_iload dX9_gain_46 rfl ?_
      refine e_icmp_ne (tgt := 55) dX9_gain_48 (by decide) (by omega) (by omega) (fun c48 => ?_) (fun c48 => ?_)
      · skip
        refine e_iload dX9_gain_55 rfl ?_
        refine e_if_eq (tgt := 64) dX9_gain_57 (by decide) (by omega) (fun c57 => ?_) (fun c57 => ?_)
        · skip
          refine e_iconst dX9_gain_64 ?_
          refine e_iret dX9_gain_65 rfl trivial (by decide) (by decide) ?_
          first | (exfalso; omega) | exact absurd trivial c57 | exact ⟨zqe (by unfold gn; first | (rw [b2_t (p := e = R p) (by omega), b2_t (p := P p = R p) (by omega)]; decide) | (rw [b2_t (p := e = R p) (by omega), b2_f (p := P p = R p) (by omega)]; decide) | (rw [b2_f (p := e = R p) (by omega), b2_t (p := P p = R p) (by omega)]; decide) | (rw [b2_f (p := e = R p) (by omega), b2_f (p := P p = R p) (by omega)]; decide)), rfl⟩
        · skip
          exfalso; omega
      · skip
        refine e_iconst dX9_gain_51 ?_
        refine e_goto (tgt := 65) dX9_gain_52 (by decide) ?_
        refine e_iret dX9_gain_65 rfl trivial (by decide) (by decide) ?_
        first | (exfalso; omega) | exact absurd trivial c57 | exact ⟨zqe (by unfold gn; first | (rw [b2_t (p := e = R p) (by omega), b2_t (p := P p = R p) (by omega)]; decide) | (rw [b2_t (p := e = R p) (by omega), b2_f (p := P p = R p) (by omega)]; decide) | (rw [b2_f (p := e = R p) (by omega), b2_t (p := P p = R p) (by omega)]; decide) | (rw [b2_f (p := e = R p) (by omega), b2_f (p := P p = R p) (by omega)]; decide)), rfl⟩
    · skip
      refine e_iconst dX9_gain_37 ?_
      refine e_goto (tgt := 42) dX9_gain_38 (by decide) ?_
      refine e_istore dX9_gain_42 (by decide) rfl rfl ?_
      refine e_iload dX9_gain_44 rfl ?_
      refine e_iload dX9_gain_46 rfl ?_
      refine e_icmp_ne (tgt := 55) dX9_gain_48 (by decide) (by omega) (by omega) (fun c48 => ?_) (fun c48 => ?_)
      · skip
        refine e_iload dX9_gain_55 rfl ?_
        refine e_if_eq (tgt := 64) dX9_gain_57 (by decide) (by omega) (fun c57 => ?_) (fun c57 => ?_)
        · skip
          exfalso; omega
        · skip
          refine e_iconst dX9_gain_60 ?_
          refine e_goto (tgt := 65) dX9_gain_61 (by decide) ?_
          refine e_iret dX9_gain_65 rfl trivial (by decide) (by decide) ?_
          first | (exfalso; omega) | exact absurd trivial c57 | exact ⟨zqe (by unfold gn; first | (rw [b2_t (p := e = R p) (by omega), b2_t (p := P p = R p) (by omega)]; decide) | (rw [b2_t (p := e = R p) (by omega), b2_f (p := P p = R p) (by omega)]; decide) | (rw [b2_f (p := e = R p) (by omega), b2_t (p := P p = R p) (by omega)]; decide) | (rw [b2_f (p := e = R p) (by omega), b2_f (p := P p = R p) (by omega)]; decide)), rfl⟩
      · skip
        refine e_iconst dX9_gain_51 ?_
        refine e_goto (tgt := 65) dX9_gain_52 (by decide) ?_
        refine e_iret dX9_gain_65 rfl trivial (by decide) (by decide) ?_
        first | (exfalso; omega) | exact absurd trivial c57 | exact ⟨zqe (by unfold gn; first | (rw [b2_t (p := e = R p) (by omega), b2_t (p := P p = R p) (by omega)]; decide) | (rw [b2_t (p := e = R p) (by omega), b2_f (p := P p = R p) (by omega)]; decide) | (rw [b2_f (p := e = R p) (by omega), b2_t (p := P p = R p) (by omega)]; decide) | (rw [b2_f (p := e = R p) (by omega), b2_f (p := P p = R p) (by omega)]; decide)), rfl⟩
set_option maxHeartbeats 4000000 in
set_option maxRecDepth 100000 in
theorem c_X9_tries {l : Launch} (hl : l.stackTraces = false) {S : S9} {h : zH} (hM : RM S h) {h0 : zH} {P R : Int → Int} {b : T6} {pl : Int} (hF : FB S R h0 h b pl) (kk co g w t fr : Int) (h1 : 0 ≤ kk ∧ kk < 65536) (h2 : 3 ≤ co ∧ co ≤ 20) (h3 : -100 ≤ g ∧ g ≤ 100) (h4 : zin w) (h5 : zin t) (h6 : zin fr) : zC l MX9_tries [zR (some 99), zI kk, zI co, zI g, zI w, zI t, zI fr] h (fun o h' => o = .inl none ∧ FB S R h0 h' (tr b (kk, co, g, w, t, fr)) pl) := by
  refine zC_of hl rfl rfl (by decide) rfl rfl (Nat.le_of_ble_eq_true rfl) ?_
  have hM : MM S h h := MM_rf hM
  have hM := hF.1
  refine e_aload_n dX9_tries_0 rfl rfl ?_
  refine m_getX 44 dX9_tries_1 flX9_190 rfl hM hF.2.2.2.1 (fun r1 => ?_)
  refine e_if_eq (tgt := 22) dX9_tries_4 (by decide) (by omega) (fun c4 => ?_) (fun c4 => ?_)
  · skip
    try simp only [b2_0, b2_n0] at c4
    refine e_aload_n dX9_tries_22 rfl rfl ?_
    refine e_iload_n dX9_tries_23 rfl rfl ?_
    refine m_putX 43 dX9_tries_24 flX9_196 (Or.inl rfl) ⟨by omega, by omega⟩ hM (by unfold mX; omega) (by omega) (fun hM => ?_)
    refine e_aload_n dX9_tries_27 rfl rfl ?_
    refine e_iload_n dX9_tries_28 rfl rfl ?_
    refine m_putX 44 dX9_tries_29 flX9_190 (Or.inl rfl) trivial hM (by unfold mX; omega) (by omega) (fun hM => ?_)
    refine e_aload_n dX9_tries_32 rfl rfl ?_
    refine e_iload_n dX9_tries_33 rfl rfl ?_
    refine m_putX 45 dX9_tries_34 flX9_193 (Or.inl rfl) trivial hM (by unfold mX; omega) (by omega) (fun hM => ?_)
    refine e_aload_n dX9_tries_37 rfl rfl ?_
    refine e_iload dX9_tries_38 rfl ?_
    refine m_putX 47 dX9_tries_40 flX9_200 (Or.inl rfl) trivial hM (by unfold mX; omega) (by omega) (fun hM => ?_)
    refine e_aload_n dX9_tries_43 rfl rfl ?_
    refine e_iload dX9_tries_44 rfl ?_
    refine m_putX 48 dX9_tries_46 flX9_203 (Or.inl rfl) trivial hM (by unfold mX; omega) (by omega) (fun hM => ?_)
    refine e_aload_n dX9_tries_49 rfl rfl ?_
    refine e_iload dX9_tries_50 rfl ?_
    refine m_putX 49 dX9_tries_52 flX9_206 (Or.inl rfl) trivial hM (by unfold mX; omega) (by omega) (fun hM => ?_)
    refine e_vret dX9_tries_55 rfl (by decide) (by decide) ?_
    have e9 : tr b (kk, co, g, w, t, fr) = (kk, co, g, w, t, fr) := if_pos (show b.2.1 = 0 ∨ b.2.2.1 * co < g * b.2.1 by omega)
    rw [e9]
    exact ⟨rfl, hM, hF.2.1, rfl, rfl, rfl, rfl, rfl, rfl, hF.2.2.2.2.2.2.2.2.1, Or.inr ⟨h2.1, h2.2, h3.1, h3.2⟩, hF.2.2.2.2.2.2.2.2.2.2⟩
  · skip
    try simp only [b2_0, b2_n0] at c4
    have bb : 3 ≤ b.2.1 ∧ b.2.1 ≤ 20 ∧ -100 ≤ b.2.2.1 ∧ b.2.2.1 ≤ 100 := by
      rcases hF.2.2.2.2.2.2.2.2.2.1 with z | z
      · exact absurd z c4
      · exact z
    have m1 := mul_bd h3.1 h3.2 (show 0 ≤ b.2.1 by omega) bb.2.1
    have m2 := mul_bd bb.2.2.1 bb.2.2.2 (show 0 ≤ co by omega) h2.2
    refine e_iload_n dX9_tries_7 rfl rfl ?_
    refine e_aload_n dX9_tries_8 rfl rfl ?_
    refine m_getX 44 dX9_tries_9 flX9_190 rfl hM hF.2.2.2.1 (fun r9 => ?_)
    refine e_imul dX9_tries_12 ?_
    refine e_aload_n dX9_tries_13 rfl rfl ?_
    refine m_getX 45 dX9_tries_14 flX9_193 rfl hM hF.2.2.2.2.1 (fun r14 => ?_)
    refine e_iload_n dX9_tries_17 rfl rfl ?_
    refine e_imul dX9_tries_18 ?_
    refine e_icmp_le (tgt := 55) dX9_tries_19 (by decide) (by omega) (by omega) (fun c19 => ?_) (fun c19 => ?_)
    · skip
      have e9 : tr b (kk, co, g, w, t, fr) = b := if_neg (show ¬ (b.2.1 = 0 ∨ b.2.2.1 * co < g * b.2.1) by omega)
      refine e_vret dX9_tries_55 rfl (by decide) (by decide) ?_
      rw [e9]
      exact ⟨rfl, hF⟩
    · skip
      refine e_aload_n dX9_tries_22 rfl rfl ?_
      refine e_iload_n dX9_tries_23 rfl rfl ?_
      refine m_putX 43 dX9_tries_24 flX9_196 (Or.inl rfl) ⟨by omega, by omega⟩ hM (by unfold mX; omega) (by omega) (fun hM => ?_)
      refine e_aload_n dX9_tries_27 rfl rfl ?_
      refine e_iload_n dX9_tries_28 rfl rfl ?_
      refine m_putX 44 dX9_tries_29 flX9_190 (Or.inl rfl) trivial hM (by unfold mX; omega) (by omega) (fun hM => ?_)
      refine e_aload_n dX9_tries_32 rfl rfl ?_
      refine e_iload_n dX9_tries_33 rfl rfl ?_
      refine m_putX 45 dX9_tries_34 flX9_193 (Or.inl rfl) trivial hM (by unfold mX; omega) (by omega) (fun hM => ?_)
      refine e_aload_n dX9_tries_37 rfl rfl ?_
      refine e_iload dX9_tries_38 rfl ?_
      refine m_putX 47 dX9_tries_40 flX9_200 (Or.inl rfl) trivial hM (by unfold mX; omega) (by omega) (fun hM => ?_)
      refine e_aload_n dX9_tries_43 rfl rfl ?_
      refine e_iload dX9_tries_44 rfl ?_
      refine m_putX 48 dX9_tries_46 flX9_203 (Or.inl rfl) trivial hM (by unfold mX; omega) (by omega) (fun hM => ?_)
      refine e_aload_n dX9_tries_49 rfl rfl ?_
      refine e_iload dX9_tries_50 rfl ?_
      refine m_putX 49 dX9_tries_52 flX9_206 (Or.inl rfl) trivial hM (by unfold mX; omega) (by omega) (fun hM => ?_)
      refine e_vret dX9_tries_55 rfl (by decide) (by decide) ?_
      have e9 : tr b (kk, co, g, w, t, fr) = (kk, co, g, w, t, fr) := if_pos (show b.2.1 = 0 ∨ b.2.2.1 * co < g * b.2.1 by omega)
      rw [e9]
      exact ⟨rfl, hM, hF.2.1, rfl, rfl, rfl, rfl, rfl, rfl, hF.2.2.2.2.2.2.2.2.1, Or.inr ⟨h2.1, h2.2, h3.1, h3.2⟩, hF.2.2.2.2.2.2.2.2.2.2⟩
set_option maxHeartbeats 4000000 in
set_option maxRecDepth 100000 in
theorem c_X9_triesCopies {l : Launch} (hl : l.stackTraces = false) {S : S9} {h : zH} (hM : RM S h) {h0 : zH} {P R : Int → Int} {b : T6} {pl : Int} (hF : FB S R h0 h b pl) (c p : Int) (hc : 0 ≤ c ∧ c < 6) (hP : ∀ q, S 40 (96 * c + q) = P q) (hp : 0 ≤ p ∧ p < 96) : zC l MX9_triesCopies [zR (some 99), zI c, zI p] h (fun o h' => o = .inl none ∧ FB S R h0 h' (cpA P R p b 25) pl) := by
  refine zC_of hl rfl rfl (by decide) rfl rfl (Nat.le_of_ble_eq_true rfl) ?_
  have hM : MM S h h := MM_rf hM
  have hM := hF.1
  refine e_iconst dX9_triesCopies_0 ?_
  refine e_istore_n dX9_triesCopies_1 rfl (by decide) rfl rfl ?_
  have lp2 : ∀ (d : Nat) (a : Int) (h1 : zH) (ba : T6), (25 - a).toNat < d → 0 ≤ a → a ≤ 25 → FB S R h0 h1 ba pl → ba = cpA P R p b a.toNat → AW l MX9_triesCopies (fun o h' => o = .inl none ∧ FB S R h0 h' (cpA P R p b 25) pl) 0 0 2 [zR (some 99), zI c, zI p, zI a, zX, zX, zX, zX, zX, zX, zX, zX] [] h1 := by
    intro d
    induction d with
    | zero => intro a h1 ba hd a0 a1 hF hba; exact absurd hd (by omega)
    | succ d ih =>
      have ih2 := ih
      intro a h1 ba hd a0 a1 hF hba
      have hM := hF.1
      have hby : cBy a = (a / 5 - 2) * 12 + a % 5 - 2 := rfl
      refine e_iload_n dX9_triesCopies_2 rfl rfl ?_
      refine e_bipush dX9_triesCopies_3 (by decide) ?_
      refine e_icmp_ge (tgt := 202) dX9_triesCopies_5 (by decide) (by omega) (by omega) (fun c5 => ?_) (fun c5 => ?_)
      · skip
        refine e_vret dX9_triesCopies_202 rfl (by decide) (by decide) ?_
        exact ⟨rfl, by rw [hba, show a = 25 by omega] at hF; exact hF⟩
      · skip
        refine e_iload_n dX9_triesCopies_8 rfl rfl ?_
        refine e_iconst dX9_triesCopies_9 ?_
        refine e_idiv dX9_triesCopies_10 (by omega) (by omega) (by omega) (by omega) ?_
        refine e_iconst dX9_triesCopies_11 ?_
        refine e_isub dX9_triesCopies_12 ?_
        refine e_bipush dX9_triesCopies_13 (by decide) ?_
        refine e_imul dX9_triesCopies_15 ?_
        refine e_iload_n dX9_triesCopies_16 rfl rfl ?_
        refine e_iconst dX9_triesCopies_17 ?_
        refine e_irem dX9_triesCopies_18 (by omega) (by omega) (by omega) (by omega) ?_
        refine e_iadd dX9_triesCopies_19 ?_
        refine e_iconst dX9_triesCopies_20 ?_
        refine e_isub dX9_triesCopies_21 ?_
        refine e_istore dX9_triesCopies_22 (by decide) rfl rfl ?_
        refine e_iconst dX9_triesCopies_24 ?_
        refine e_istore dX9_triesCopies_25 (by decide) rfl rfl ?_
        have lp27 : ∀ (d : Nat) (w : Int) (h1 : zH) (bw : T6), (7 - w).toNat < d → 2 ≤ w → w ≤ 7 → (a = 12 → w = 2) → FB S R h0 h1 bw pl → bw = cpW P R p a ba (w - 2).toNat → AW l MX9_triesCopies (fun o h' => o = .inl none ∧ FB S R h0 h' (cpA P R p b 25) pl) 0 0 27 [zR (some 99), zI c, zI p, zI a, zI (cBy a), zI w, zX, zX, zX, zX, zX, zX] [] h1 := by
          intro d
          induction d with
          | zero => intro w h1 bw hd w0 w1 w12 hF hbw; exact absurd hd (by omega)
          | succ d ih =>
            have ih27 := ih
            intro w h1 bw hd w0 w1 w12 hF hbw
            have hM := hF.1
            refine e_iload_n dX9_triesCopies_27 rfl rfl ?_
            refine e_bipush dX9_triesCopies_28 (by decide) ?_
            refine e_icmp_eq (tgt := 196) dX9_triesCopies_30 (by decide) (by omega) (by omega) (fun c30 => ?_) (fun c30 => ?_)
            · skip
              refine e_iinc dX9_triesCopies_196 (by decide) rfl rfl rfl rfl ?_
              refine e_goto (tgt := 2) dX9_triesCopies_199 (by decide) ?_
              refine e_mask [true, true, true, true, false, false, false, false, false, false, false, false] ?_
              refine ih2 _ _ _ (by omega) (by omega) (by omega) hF ?_
              rw [show (a + 1).toNat = a.toNat + 1 by omega]
              unfold cpA
              first | (rw [if_pos (by omega), ← hba, hbw, show (w - 2).toNat = 0 by omega]; rfl) | (rw [if_neg (by omega), ← hba, hbw, show (w - 2).toNat = 5 by omega, show ((a.toNat : Nat) : Int) = a by omega])
            · skip
              refine e_iload dX9_triesCopies_33 rfl ?_
              refine e_bipush dX9_triesCopies_35 (by decide) ?_
              refine e_icmp_gt (tgt := 196) dX9_triesCopies_37 (by decide) (by omega) (by omega) (fun c37 => ?_) (fun c37 => ?_)
              · skip
                refine e_iinc dX9_triesCopies_196 (by decide) rfl rfl rfl rfl ?_
                refine e_goto (tgt := 2) dX9_triesCopies_199 (by decide) ?_
                refine e_mask [true, true, true, true, false, false, false, false, false, false, false, false] ?_
                refine ih2 _ _ _ (by omega) (by omega) (by omega) hF ?_
                rw [show (a + 1).toNat = a.toNat + 1 by omega]
                unfold cpA
                first | (rw [if_pos (by omega), ← hba, hbw, show (w - 2).toNat = 0 by omega]; rfl) | (rw [if_neg (by omega), ← hba, hbw, show (w - 2).toNat = 5 by omega, show ((a.toNat : Nat) : Int) = a by omega])
              · skip
                refine e_iconst dX9_triesCopies_40 ?_
                refine e_istore dX9_triesCopies_41 (by decide) rfl rfl ?_
                have lp43 : ∀ (d : Nat) (t : Int) (h1 : zH) (bt : T6), (5 - t).toNat < d → 1 ≤ t → t ≤ 5 → FB S R h0 h1 bt pl → bt = cpH P R p a w bw (t - 1).toNat → AW l MX9_triesCopies (fun o h' => o = .inl none ∧ FB S R h0 h' (cpA P R p b 25) pl) 0 0 43 [zR (some 99), zI c, zI p, zI a, zI (cBy a), zI w, zI t, zX, zX, zX, zX, zX] [] h1 := by
                  intro d
                  induction d with
                  | zero => intro t h1 bt hd t0 t1 hF hbt; exact absurd hd (by omega)
                  | succ d ih =>
                    have ih43 := ih
                    intro t h1 bt hd t0 t1 hF hbt
                    have hM := hF.1
                    have hx : cpH P R p a w bw (t + 1 - 1).toNat = if cOk p a w t then tr bt (99, 6, gC P R p w t (cBy a), w, t, cBy a) else bt := by
                      rw [show (t + 1 - 1).toNat = (t - 1).toNat + 1 by omega]
                      unfold cpH
                      rw [← hbt, show (((t - 1).toNat : Nat) : Int) + 1 = t by omega]
                    refine e_iload dX9_triesCopies_43 rfl ?_
                    refine e_iconst dX9_triesCopies_45 ?_
                    refine e_icmp_gt (tgt := 190) dX9_triesCopies_46 (by decide) (by omega) (by omega) (fun c46 => ?_) (fun c46 => ?_)
                    · skip
                      refine e_iinc dX9_triesCopies_190 (by decide) rfl rfl rfl rfl ?_
                      refine e_goto (tgt := 27) dX9_triesCopies_193 (by decide) ?_
                      refine e_mask [true, true, true, true, true, true, false, false, false, false, false, false] ?_
                      refine ih27 _ _ _ (by omega) (by omega) (by omega) (by omega) hF ?_
                      rw [show (w + 1 - 2).toNat = (w - 2).toNat + 1 by omega]
                      unfold cpW
                      rw [← hbw, hbt, show (t - 1).toNat = 4 by omega, show (((w - 2).toNat : Nat) : Int) + 2 = w by omega]
                    · skip
                      refine e_iload_n dX9_triesCopies_49 rfl rfl ?_
                      refine e_bipush dX9_triesCopies_50 (by decide) ?_
                      refine e_irem dX9_triesCopies_52 (by omega) (by omega) (by omega) (by omega) ?_
                      refine e_istore dX9_triesCopies_53 (by decide) rfl rfl ?_
                      refine e_iload_n dX9_triesCopies_55 rfl rfl ?_
                      refine e_bipush dX9_triesCopies_56 (by decide) ?_
                      refine e_idiv dX9_triesCopies_58 (by omega) (by omega) (by omega) (by omega) ?_
                      refine e_istore dX9_triesCopies_59 (by decide) rfl rfl ?_
                      refine e_iload dX9_triesCopies_61 rfl ?_
                      refine e_iload dX9_triesCopies_63 rfl ?_
                      refine e_iload dX9_triesCopies_65 rfl ?_
                      refine e_iload dX9_triesCopies_67 rfl ?_
                      refine e_callS (As := [zI _, zI _, zI _, zI _]) dX9_triesCopies_69 moX9_isWithin msX9_isWithin mlX9_209 rfl (Nat.le_of_ble_eq_true rfl) ⟨by decide, by decide, by decide, by decide⟩ (c_X9_isWithin hl _ _ _ _ (by omega) (by omega) (by omega) (by omega)) (fun E h1 q => by cases q.1) (fun v h9 q => ?_)
                      obtain ⟨e1, e2⟩ := q; cases e1; rw [e2]; clear e2 h9
                      refine e_if_eq (tgt := 184) dX9_triesCopies_72 (by decide) b2_in (fun c72 => ?_) (fun c72 => ?_)
                      · skip
                        try simp only [b2_0, b2_n0] at c72
                        refine e_iinc dX9_triesCopies_184 (by decide) rfl rfl rfl rfl ?_
                        refine e_goto (tgt := 43) dX9_triesCopies_187 (by decide) ?_
                        refine e_mask [true, true, true, true, true, true, true, false, false, false, false, false] ?_
                        refine ih43 _ _ _ (by omega) (by omega) (by omega) hF ?_
                        rw [hx]
                        first | (rw [if_neg (by omega)]; done) | (rw [if_pos (by omega), hg, show k = w * t by omega]; rfl)
                      · skip
                        try simp only [b2_0, b2_n0] at c72
                        refine e_iload dX9_triesCopies_75 rfl ?_
                        refine e_iload_n dX9_triesCopies_77 rfl rfl ?_
                        refine e_iconst dX9_triesCopies_78 ?_
                        refine e_irem dX9_triesCopies_79 (by omega) (by omega) (by omega) (by omega) ?_
                        refine e_iadd dX9_triesCopies_80 ?_
                        refine e_iconst dX9_triesCopies_81 ?_
                        refine e_isub dX9_triesCopies_82 ?_
                        refine e_iload dX9_triesCopies_83 rfl ?_
                        refine e_iload_n dX9_triesCopies_85 rfl rfl ?_
                        refine e_iconst dX9_triesCopies_86 ?_
                        refine e_idiv dX9_triesCopies_87 (by omega) (by omega) (by omega) (by omega) ?_
                        refine e_iadd dX9_triesCopies_88 ?_
                        refine e_iconst dX9_triesCopies_89 ?_
                        refine e_isub dX9_triesCopies_90 ?_
                        refine e_iload dX9_triesCopies_91 rfl ?_
                        refine e_iload dX9_triesCopies_93 rfl ?_
                        refine e_callS (As := [zI _, zI _, zI _, zI _]) dX9_triesCopies_95 moX9_isWithin msX9_isWithin mlX9_209 rfl (Nat.le_of_ble_eq_true rfl) ⟨by decide, by decide, by decide, by decide⟩ (c_X9_isWithin hl _ _ _ _ (by omega) (by omega) (by omega) (by omega)) (fun E h1 q => by cases q.1) (fun v h9 q => ?_)
                        obtain ⟨e1, e2⟩ := q; cases e1; rw [e2]; clear e2 h9
                        refine e_if_eq (tgt := 184) dX9_triesCopies_98 (by decide) b2_in (fun c98 => ?_) (fun c98 => ?_)
                        · skip
                          try simp only [b2_0, b2_n0] at c98
                          refine e_iinc dX9_triesCopies_184 (by decide) rfl rfl rfl rfl ?_
                          refine e_goto (tgt := 43) dX9_triesCopies_187 (by decide) ?_
                          refine e_mask [true, true, true, true, true, true, true, false, false, false, false, false] ?_
                          refine ih43 _ _ _ (by omega) (by omega) (by omega) hF ?_
                          rw [hx]
                          first | (rw [if_neg (by omega)]; done) | (rw [if_pos (by omega), hg, show k = w * t by omega]; rfl)
                        · skip
                          try simp only [b2_0, b2_n0] at c98
                          have wt : 1 ≤ w * t ∧ w * t ≤ 24 := wt_bd (by omega) (by omega) (by omega) (by omega)
                          refine e_iconst dX9_triesCopies_101 ?_
                          refine e_istore dX9_triesCopies_102 (by decide) rfl rfl ?_
                          refine e_iconst dX9_triesCopies_104 ?_
                          refine e_istore dX9_triesCopies_105 (by decide) rfl rfl ?_
                          have lp107 : ∀ (d : Nat) (k g : Int), (w * t - k).toNat < d → 0 ≤ k → k ≤ w * t → g = sg (fun k => gn P R (p + k / w * 12 + k % w) (P (p + k / w * 12 + k % w + cBy a))) k.toNat → AW l MX9_triesCopies (fun o h' => o = .inl none ∧ FB S R h0 h' (cpA P R p b 25) pl) 0 0 107 [zR (some 99), zI c, zI p, zI a, zI (cBy a), zI w, zI t, zI (p % 12), zI (p / 12), zI g, zI k, zX] [] h1 := by
                            intro d
                            induction d with
                            | zero => intro k g hd k0 k1 hg; exact absurd hd (by omega)
                            | succ d ih =>
                              have ih107 := ih
                              intro k g hd k0 k1 hg
                              have cc := sg_pm (f := (fun k => gn P R (p + k / w * 12 + k % w) (P (p + k / w * 12 + k % w + cBy a)))) (fun _ _ => gn_in _ _ _ _) k.toNat
                              have g1 : 0 ≤ k % w := Int.emod_nonneg _ (by omega)
                              have g2 : k % w < w := Int.emod_lt_of_pos _ (by omega)
                              have g3 : 0 ≤ k / w := Int.ediv_nonneg k0 (by omega)
                              have g4 : k < w * t → k / w < t := fun z => Int.ediv_lt_of_lt_mul (by omega) (by rw [Int.mul_comm]; exact z)
                              refine e_iload dX9_triesCopies_107 rfl ?_
                              refine e_iload dX9_triesCopies_109 rfl ?_
                              refine e_iload dX9_triesCopies_111 rfl ?_
                              refine e_imul dX9_triesCopies_113 ?_
                              refine e_icmp_ge (tgt := 168) dX9_triesCopies_114 (by decide) (by omega) (by omega) (fun c114 => ?_) (fun c114 => ?_)
                              · skip
                                refine e_aload_n dX9_triesCopies_168 rfl rfl ?_
                                refine e_bipush dX9_triesCopies_169 (by decide) ?_
                                refine e_bipush dX9_triesCopies_171 (by decide) ?_
                                refine e_iload dX9_triesCopies_173 rfl ?_
                                refine e_iload dX9_triesCopies_175 rfl ?_
                                refine e_iload dX9_triesCopies_177 rfl ?_
                                refine e_iload dX9_triesCopies_179 rfl ?_
                                refine e_callV (As := [zI _, zI _, zI _, zI _, zI _, zI _]) (cb := 10) dX9_triesCopies_181 moX9_tries mvX9_tries mlX9_217 (by decide) rfl hM.1.1 rfl (Nat.le_of_ble_eq_true rfl) ⟨by decide, by decide, by decide, by decide⟩ (c_X9_tries hl hM.1 (P := P) hF _ _ _ _ _ _ (by omega) (by omega) (by omega) (by omega) (by omega) (by omega)) (fun E h1 q => by cases q.1) (fun v h1 q => ?_)
                                obtain ⟨e1, hF⟩ := q; cases e1; have hM := hF.1
                                refine e_iinc dX9_triesCopies_184 (by decide) rfl rfl rfl rfl ?_
                                refine e_goto (tgt := 43) dX9_triesCopies_187 (by decide) ?_
                                refine e_mask [true, true, true, true, true, true, true, false, false, false, false, false] ?_
                                refine ih43 _ _ _ (by omega) (by omega) (by omega) hF ?_
                                rw [hx]
                                first | (rw [if_neg (by omega)]; done) | (rw [if_pos (by omega), hg, show k = w * t by omega]; rfl)
                              · skip
                                have g5 := g4 (by omega)
                                refine e_iload_n dX9_triesCopies_117 rfl rfl ?_
                                refine e_iload dX9_triesCopies_118 rfl ?_
                                refine e_iload dX9_triesCopies_120 rfl ?_
                                refine e_idiv dX9_triesCopies_122 (by omega) (by omega) (by omega) (by omega) ?_
                                refine e_bipush dX9_triesCopies_123 (by decide) ?_
                                refine e_imul dX9_triesCopies_125 ?_
                                refine e_iadd dX9_triesCopies_126 ?_
                                refine e_iload dX9_triesCopies_127 rfl ?_
                                refine e_iload dX9_triesCopies_129 rfl ?_
                                refine e_irem dX9_triesCopies_131 (by omega) (by omega) (by omega) (by omega) ?_
                                refine e_iadd dX9_triesCopies_132 ?_
                                refine e_istore dX9_triesCopies_133 (by decide) rfl rfl ?_
                                refine e_iload dX9_triesCopies_135 rfl ?_
                                refine e_aload_n dX9_triesCopies_137 rfl rfl ?_
                                refine e_iload_n dX9_triesCopies_138 rfl rfl ?_
                                refine e_iload dX9_triesCopies_139 rfl ?_
                                refine e_aload_n dX9_triesCopies_141 rfl rfl ?_
                                refine m_arr 40 dX9_triesCopies_142 flX9_119 rfl hM (by decide) ?_
                                refine e_bipush dX9_triesCopies_145 (by decide) ?_
                                refine e_iload_n dX9_triesCopies_147 rfl rfl ?_
                                refine e_imul dX9_triesCopies_148 ?_
                                refine e_iload dX9_triesCopies_149 rfl ?_
                                refine e_iadd dX9_triesCopies_151 ?_
                                refine e_iload dX9_triesCopies_152 rfl ?_
                                refine e_iadd dX9_triesCopies_154 ?_
                                refine m_ld dX9_triesCopies_155 hM (by decide) rfl (by omega) (by simp only [mL]; omega) ((congrArg (S 40) (Int.add_assoc _ _ _)).trans (hP _)) (fun r155 => ?_)
                                refine e_callV (As := [zI _, zI _, zI _]) (cb := 10) dX9_triesCopies_156 moX9_gain mvX9_gain mlX9_213 (by decide) rfl hM.1.1 rfl (Nat.le_of_ble_eq_true rfl) ⟨by decide, by decide, by decide, by decide⟩ (c_X9_gain hl hM.1 hF _ _ _ hc hP (by omega) (by omega)) (fun E h1 q => by cases q.1) (fun v h9 q => ?_)
                                obtain ⟨e1, e2⟩ := q; cases e1; rw [e2]; clear e2 h9
                                refine e_iadd dX9_triesCopies_159 ?_
                                refine e_istore dX9_triesCopies_160 (by decide) rfl rfl ?_
                                refine e_iinc dX9_triesCopies_162 (by decide) rfl rfl rfl rfl ?_
                                refine e_goto (tgt := 107) dX9_triesCopies_165 (by decide) ?_
                                refine e_mask [true, true, true, true, true, true, true, true, true, true, true, false] ?_
                                exact ih107 _ _ (by omega) (by omega) (by omega) (by rw [sg_s k0, ← hg])
                          exact lp107 25 0 0 (by omega) (by omega) (by omega) rfl
                exact lp43 5 1 _ _ (by omega) (by omega) (by omega) hF rfl
        exact lp27 6 2 _ _ (by omega) (by omega) (by omega) (by omega) hF rfl
  exact lp2 26 0 _ _ (by omega) (by omega) (by omega) hF rfl
set_option maxHeartbeats 4000000 in
set_option maxRecDepth 100000 in
theorem c_X9_triesFills {l : Launch} (hl : l.stackTraces = false) {S : S9} {h : zH} (hM : RM S h) {h0 : zH} {P R : Int → Int} {b : T6} {pl : Int} (hF : FB S R h0 h b pl) (c p : Int) (hc : 0 ≤ c ∧ c < 6) (hP : ∀ q, S 40 (96 * c + q) = P q) (hp : 0 ≤ p ∧ p < 96) : zC l MX9_triesFills [zR (some 99), zI c, zI p] h (fun o h' => o = .inl none ∧ FB S R h0 h' (flW P R p b 12) pl) := by
  refine zC_of hl rfl rfl (by decide) rfl rfl (Nat.le_of_ble_eq_true rfl) ?_
  have hM : MM S h h := MM_rf hM
  have hM := hF.1
  refine e_iconst dX9_triesFills_0 ?_
  refine e_istore_n dX9_triesFills_1 rfl (by decide) rfl rfl ?_
  have lp2 : ∀ (d : Nat) (w : Int) (h1 : zH) (bw : T6), (13 - w).toNat < d → 1 ≤ w → w ≤ 13 → FB S R h0 h1 bw pl → bw = flW P R p b (w - 1).toNat → AW l MX9_triesFills (fun o h' => o = .inl none ∧ FB S R h0 h' (flW P R p b 12) pl) 0 0 2 [zR (some 99), zI c, zI p, zI w, zX, zX, zX] [] h1 := by
    intro d
    induction d with
    | zero => intro w h1 bw hd w0 w1 hF hbw; exact absurd hd (by omega)
    | succ d ih =>
      have ih2 := ih
      intro w h1 bw hd w0 w1 hF hbw
      have hM := hF.1
      refine e_iload_n dX9_triesFills_2 rfl rfl ?_
      refine e_bipush dX9_triesFills_3 (by decide) ?_
      refine e_icmp_gt (tgt := 111) dX9_triesFills_5 (by decide) (by omega) (by omega) (fun c5 => ?_) (fun c5 => ?_)
      · skip
        refine e_vret dX9_triesFills_111 rfl (by decide) (by decide) ?_
        exact ⟨rfl, by rw [hbw, show w = 13 by omega] at hF; exact hF⟩
      · skip
        refine e_iconst dX9_triesFills_8 ?_
        refine e_istore dX9_triesFills_9 (by decide) rfl rfl ?_
        have lp11 : ∀ (d : Nat) (t : Int) (h1 : zH) (bt : T6), (9 - t).toNat < d → 1 ≤ t → t ≤ 9 → FB S R h0 h1 bt pl → bt = flH P R p w bw (t - 1).toNat → AW l MX9_triesFills (fun o h' => o = .inl none ∧ FB S R h0 h' (flW P R p b 12) pl) 0 0 11 [zR (some 99), zI c, zI p, zI w, zI t, zX, zX] [] h1 := by
          intro d
          induction d with
          | zero => intro t h1 bt hd t0 t1 hF hbt; exact absurd hd (by omega)
          | succ d ih =>
            have ih11 := ih
            intro t h1 bt hd t0 t1 hF hbt
            have hM := hF.1
            have hx : flH P R p w bw (t + 1 - 1).toNat = if vld (p % 12) (p / 12) w t then tr bt (102, 5, gF P R p w t, w, t, 0) else bt := by
              rw [show (t + 1 - 1).toNat = (t - 1).toNat + 1 by omega]
              unfold flH
              rw [← hbt, show (((t - 1).toNat : Nat) : Int) + 1 = t by omega]
            refine e_iload dX9_triesFills_11 rfl ?_
            refine e_bipush dX9_triesFills_13 (by decide) ?_
            refine e_icmp_gt (tgt := 105) dX9_triesFills_15 (by decide) (by omega) (by omega) (fun c15 => ?_) (fun c15 => ?_)
            · skip
              refine e_iinc dX9_triesFills_105 (by decide) rfl rfl rfl rfl ?_
              refine e_goto (tgt := 2) dX9_triesFills_108 (by decide) ?_
              refine e_mask [true, true, true, true, false, false, false] ?_
              refine ih2 _ _ _ (by omega) (by omega) (by omega) hF ?_
              rw [show (w + 1 - 1).toNat = (w - 1).toNat + 1 by omega]
              unfold flW
              rw [← hbw, hbt, show (t - 1).toNat = 8 by omega, show (((w - 1).toNat : Nat) : Int) + 1 = w by omega]
            · skip
              refine e_iload_n dX9_triesFills_18 rfl rfl ?_
              refine e_bipush dX9_triesFills_19 (by decide) ?_
              refine e_irem dX9_triesFills_21 (by omega) (by omega) (by omega) (by omega) ?_
              refine e_iload_n dX9_triesFills_22 rfl rfl ?_
              refine e_bipush dX9_triesFills_23 (by decide) ?_
              refine e_idiv dX9_triesFills_25 (by omega) (by omega) (by omega) (by omega) ?_
              refine e_iload_n dX9_triesFills_26 rfl rfl ?_
              refine e_iload dX9_triesFills_27 rfl ?_
              refine e_callS (As := [zI _, zI _, zI _, zI _]) dX9_triesFills_29 moX9_isWithin msX9_isWithin mlX9_209 rfl (Nat.le_of_ble_eq_true rfl) ⟨by decide, by decide, by decide, by decide⟩ (c_X9_isWithin hl _ _ _ _ (by omega) (by omega) (by omega) (by omega)) (fun E h1 q => by cases q.1) (fun v h9 q => ?_)
              obtain ⟨e1, e2⟩ := q; cases e1; rw [e2]; clear e2 h9
              refine e_if_eq (tgt := 99) dX9_triesFills_32 (by decide) b2_in (fun c32 => ?_) (fun c32 => ?_)
              · skip
                try simp only [b2_0, b2_n0] at c32
                refine e_iinc dX9_triesFills_99 (by decide) rfl rfl rfl rfl ?_
                refine e_goto (tgt := 11) dX9_triesFills_102 (by decide) ?_
                refine e_mask [true, true, true, true, true, false, false] ?_
                refine ih11 _ _ _ (by omega) (by omega) (by omega) hF ?_
                rw [hx]
                first | (rw [if_neg (by omega)]; done) | (rw [if_pos (by omega), hg, show k = w * t by omega]; rfl)
              · skip
                try simp only [b2_0, b2_n0] at c32
                have wt := area_le (W := w) (H := t) (by omega) (by omega) (by omega) (by omega)
                refine e_iconst dX9_triesFills_35 ?_
                refine e_istore dX9_triesFills_36 (by decide) rfl rfl ?_
                refine e_iconst dX9_triesFills_38 ?_
                refine e_istore dX9_triesFills_39 (by decide) rfl rfl ?_
                have lp41 : ∀ (d : Nat) (k g : Int), (w * t - k).toNat < d → 0 ≤ k → k ≤ w * t → g = sg (fun k => gn P R (p + k / w * 12 + k % w) (R p)) k.toNat → AW l MX9_triesFills (fun o h' => o = .inl none ∧ FB S R h0 h' (flW P R p b 12) pl) 0 0 41 [zR (some 99), zI c, zI p, zI w, zI t, zI g, zI k] [] h1 := by
                  intro d
                  induction d with
                  | zero => intro k g hd k0 k1 hg; exact absurd hd (by omega)
                  | succ d ih =>
                    have ih41 := ih
                    intro k g hd k0 k1 hg
                    have cc := sg_pm (f := (fun k => gn P R (p + k / w * 12 + k % w) (R p))) (fun _ _ => gn_in _ _ _ _) k.toNat
                    have g1 : 0 ≤ k % w := Int.emod_nonneg _ (by omega)
                    have g2 : k % w < w := Int.emod_lt_of_pos _ (by omega)
                    have g3 : 0 ≤ k / w := Int.ediv_nonneg k0 (by omega)
                    have g4 : k < w * t → k / w < t := fun z => Int.ediv_lt_of_lt_mul (by omega) (by rw [Int.mul_comm]; exact z)
                    refine e_iload dX9_triesFills_41 rfl ?_
                    refine e_iload_n dX9_triesFills_43 rfl rfl ?_
                    refine e_iload dX9_triesFills_44 rfl ?_
                    refine e_imul dX9_triesFills_46 ?_
                    refine e_icmp_ge (tgt := 86) dX9_triesFills_47 (by decide) (by omega) (by omega) (fun c47 => ?_) (fun c47 => ?_)
                    · skip
                      refine e_aload_n dX9_triesFills_86 rfl rfl ?_
                      refine e_bipush dX9_triesFills_87 (by decide) ?_
                      refine e_iconst dX9_triesFills_89 ?_
                      refine e_iload dX9_triesFills_90 rfl ?_
                      refine e_iload_n dX9_triesFills_92 rfl rfl ?_
                      refine e_iload dX9_triesFills_93 rfl ?_
                      refine e_iconst dX9_triesFills_95 ?_
                      refine e_callV (As := [zI _, zI _, zI _, zI _, zI _, zI _]) (cb := 10) dX9_triesFills_96 moX9_tries mvX9_tries mlX9_217 (by decide) rfl hM.1.1 rfl (Nat.le_of_ble_eq_true rfl) ⟨by decide, by decide, by decide, by decide⟩ (c_X9_tries hl hM.1 (P := P) hF _ _ _ _ _ _ (by omega) (by omega) (by omega) (by omega) (by omega) (by omega)) (fun E h1 q => by cases q.1) (fun v h1 q => ?_)
                      obtain ⟨e1, hF⟩ := q; cases e1; have hM := hF.1
                      refine e_iinc dX9_triesFills_99 (by decide) rfl rfl rfl rfl ?_
                      refine e_goto (tgt := 11) dX9_triesFills_102 (by decide) ?_
                      refine e_mask [true, true, true, true, true, false, false] ?_
                      refine ih11 _ _ _ (by omega) (by omega) (by omega) hF ?_
                      rw [hx]
                      first | (rw [if_neg (by omega)]; done) | (rw [if_pos (by omega), hg, show k = w * t by omega]; rfl)
                    · skip
                      have g5 := g4 (by omega)
                      refine e_iload dX9_triesFills_50 rfl ?_
                      refine e_aload_n dX9_triesFills_52 rfl rfl ?_
                      refine e_iload_n dX9_triesFills_53 rfl rfl ?_
                      refine e_iload_n dX9_triesFills_54 rfl rfl ?_
                      refine e_iload dX9_triesFills_55 rfl ?_
                      refine e_iload_n dX9_triesFills_57 rfl rfl ?_
                      refine e_idiv dX9_triesFills_58 (by omega) (by omega) (by omega) (by omega) ?_
                      refine e_bipush dX9_triesFills_59 (by decide) ?_
                      refine e_imul dX9_triesFills_61 ?_
                      refine e_iadd dX9_triesFills_62 ?_
                      refine e_iload dX9_triesFills_63 rfl ?_
                      refine e_iload_n dX9_triesFills_65 rfl rfl ?_
                      refine e_irem dX9_triesFills_66 (by omega) (by omega) (by omega) (by omega) ?_
                      refine e_iadd dX9_triesFills_67 ?_
                      refine e_aload_n dX9_triesFills_68 rfl rfl ?_
                      refine m_arr 41 dX9_triesFills_69 flX9_122 rfl hM (by decide) ?_
                      refine e_iload_n dX9_triesFills_72 rfl rfl ?_
                      refine m_ldX dX9_triesFills_73 hM (by decide) (by omega) (by omega) (hF.2.1 p (by omega) (by omega)) (fun r73 => ?_)
                      refine e_callV (As := [zI _, zI _, zI _]) (cb := 10) dX9_triesFills_74 moX9_gain mvX9_gain mlX9_213 (by decide) rfl hM.1.1 rfl (Nat.le_of_ble_eq_true rfl) ⟨by decide, by decide, by decide, by decide⟩ (c_X9_gain hl hM.1 hF _ _ _ hc hP (by omega) (by omega)) (fun E h1 q => by cases q.1) (fun v h9 q => ?_)
                      obtain ⟨e1, e2⟩ := q; cases e1; rw [e2]; clear e2 h9
                      refine e_iadd dX9_triesFills_77 ?_
                      refine e_istore dX9_triesFills_78 (by decide) rfl rfl ?_
                      refine e_iinc dX9_triesFills_80 (by decide) rfl rfl rfl rfl ?_
                      refine e_goto (tgt := 41) dX9_triesFills_83 (by decide) ?_
                      exact ih41 _ _ (by omega) (by omega) (by omega) (by rw [sg_s k0, ← hg])
                exact lp41 97 0 0 (by omega) (by omega) (by omega) rfl
        exact lp11 9 1 _ _ (by omega) (by omega) (by omega) hF rfl
  exact lp2 13 1 _ _ (by omega) (by omega) (by omega) hF rfl
set_option maxHeartbeats 4000000 in
set_option maxRecDepth 100000 in
theorem c_X9_finds {l : Launch} (hl : l.stackTraces = false) {S : S9} {h : zH} (hM : RM S h) (hN : IN S) (hI : IW S) (hO : IO S) (hC : IC S) (hK : IK S) (c : Int) (hc : 0 ≤ c ∧ c < S 2 0) : zC l MX9_finds [zR (some 99), zI c] h (fun o h' => o = .inl (some (zI (b2 (fst9 (fun q => S 40 (96 * c + q)) (fun q => screenAt S (S 35 c) q) < 96)))) ∧ MM S h h' ∧ (fst9 (fun q => S 40 (96 * c + q)) (fun q => screenAt S (S 35 c) q) < 96 → FB S (fun q => screenAt S (S 35 c) q) h h' (bst (fun q => S 40 (96 * c + q)) (fun q => screenAt S (S 35 c) q)) (fst9 (fun q => S 40 (96 * c + q)) (fun q => screenAt S (S 35 c) q))) ∧ zf h' 1000 99 = zf h 1000 99) := by
  refine zC_of hl rfl rfl (by decide) rfl rfl (Nat.le_of_ble_eq_true rfl) ?_
  have hM : MM S h h := MM_rf hM
  have hN2 := hN
  obtain ⟨n1, n2, n3, n4, n5⟩ := hN2
  have q1 := hC c hc.1 hc.2
  have hfi := fst9_in (fun q => S 40 (96 * c + q)) (fun q => screenAt S (S 35 c) q)
  refine e_aload_n dX9_finds_0 rfl rfl ?_
  refine e_aload_n dX9_finds_1 rfl rfl ?_
  refine m_arr 35 dX9_finds_2 flX9_104 rfl hM (by decide) ?_
  refine e_iload_n dX9_finds_5 rfl rfl ?_
  refine m_ld dX9_finds_6 hM (by decide) rfl (by omega) (by simp only [mL]; omega) rfl (fun r6 => ?_)
  refine e_callV (As := [zI _]) (cb := 10) dX9_finds_7 moX9_lookAt mvX9_lookAt mlX9_167 (by decide) rfl hM.1.1 rfl (Nat.le_of_ble_eq_true rfl) ⟨by decide, by decide, by decide, by decide⟩ (c_X9_lookAt hl hM.1 hN hI hO _ (by omega) (by omega)) (fun E h1 q => by cases q.1) (fun v h1 q => ?_)
  obtain ⟨e1, hM1, hv, hz9⟩ := q; cases e1; have hM := MM_tr hM hM1; clear hM1
  refine e_aload_n dX9_finds_10 rfl rfl ?_
  refine e_iconst dX9_finds_11 ?_
  refine m_putX 44 dX9_finds_12 flX9_190 (Or.inl rfl) trivial hM (by unfold mX; omega) (by omega) (fun hM => ?_)
  obtain ⟨h2, e2⟩ : ∃ h2, h2 = sf h1 (1000 + 44) 99 0 := ⟨_, rfl⟩
  rw [← e2] at hM ⊢
  have hF : FB S (fun q => screenAt S (S 35 c) q) h h2 (zf h2 1043 99, 0, zf h2 1045 99, zf h2 1047 99, zf h2 1048 99, zf h2 1049 99) (zf h2 1046 99) := ⟨hM, by rw [e2]; exact hv, rfl, by rw [e2]; rfl, rfl, rfl, rfl, rfl, rfl, Or.inl rfl, by rw [e2]; exact hz9 1000⟩
  refine e_iconst dX9_finds_15 ?_
  refine e_istore_n dX9_finds_16 rfl (by decide) rfl rfl ?_
  have lp17 : ∀ (d : Nat) (p : Int), (96 - p).toNat < d → 0 ≤ p → p ≤ 96 → fstR (fun q => S 40 (96 * c + q)) (fun q => screenAt S (S 35 c) q) (96 - p).toNat = fst9 (fun q => S 40 (96 * c + q)) (fun q => screenAt S (S 35 c) q) → AW l MX9_finds (fun o h' => o = .inl (some (zI (b2 (fst9 (fun q => S 40 (96 * c + q)) (fun q => screenAt S (S 35 c) q) < 96)))) ∧ MM S h h' ∧ (fst9 (fun q => S 40 (96 * c + q)) (fun q => screenAt S (S 35 c) q) < 96 → FB S (fun q => screenAt S (S 35 c) q) h h' (bst (fun q => S 40 (96 * c + q)) (fun q => screenAt S (S 35 c) q)) (fst9 (fun q => S 40 (96 * c + q)) (fun q => screenAt S (S 35 c) q))) ∧ zf h' 1000 99 = zf h 1000 99) 0 0 17 [zR (some 99), zI c, zI p, zX] [] h2 := by
    intro d
    induction d with
    | zero => intro p hd p0 p1 hp; exact absurd hd (by omega)
    | succ d ih =>
      have ih17 := ih
      intro p hd p0 p1 hp
      have hx : p < 96 → fstR (fun q => S 40 (96 * c + q)) (fun q => screenAt S (S 35 c) q) (96 - p).toNat = if S 40 (96 * c + p) = screenAt S (S 35 c) p then fstR (fun q => S 40 (96 * c + q)) (fun q => screenAt S (S 35 c) q) (96 - (p + 1)).toNat else p := by
        intro z
        rw [show (96 - p).toNat = (96 - (p + 1)).toNat + 1 by omega]
        rw [fstR_s]
        rw [show 96 - ((((96 - (p + 1)).toNat : Nat) : Int) + 1) = p by omega]
      refine e_iload_n dX9_finds_17 rfl rfl ?_
      refine e_bipush dX9_finds_18 (by decide) ?_
      refine e_icmp_ge (tgt := 49) dX9_finds_20 (by decide) (by omega) (by omega) (fun c20 => ?_) (fun c20 => ?_)
      · skip
        refine e_iload_n dX9_finds_49 rfl rfl ?_
        refine e_bipush dX9_finds_50 (by decide) ?_
        refine e_icmp_ne (tgt := 57) dX9_finds_52 (by decide) (by omega) (by omega) (fun c52 => ?_) (fun c52 => ?_)
        · skip
          have hp9 : p = fst9 (fun q => S 40 (96 * c + q)) (fun q => screenAt S (S 35 c) q) := by first | exact hp | omega
          refine e_aload_n dX9_finds_57 rfl rfl ?_
          refine e_iload_n dX9_finds_58 rfl rfl ?_
          refine m_putX 46 dX9_finds_59 flX9_221 (Or.inl rfl) trivial hM (by unfold mX; omega) (by omega) (fun hM => ?_)
          obtain ⟨h4, e4⟩ : ∃ h4, h4 = sf h2 (1000 + 46) 99 p := ⟨_, rfl⟩
          rw [← e4] at hM ⊢
          have hF : FB S (fun q => screenAt S (S 35 c) q) h h4 (zf h2 1043 99, 0, zf h2 1045 99, zf h2 1047 99, zf h2 1048 99, zf h2 1049 99) p := ⟨hM, by rw [e4]; exact hF.2.1, by rw [e4]; rfl, by rw [e4]; exact hF.2.2.2.1, by rw [e4]; rfl, by rw [e4]; rfl, by rw [e4]; rfl, by rw [e4]; rfl, by rw [e4]; rfl, Or.inl rfl, by rw [e4]; exact hF.2.2.2.2.2.2.2.2.2.2⟩
          refine e_aload_n dX9_finds_62 rfl rfl ?_
          refine e_iload_n dX9_finds_63 rfl rfl ?_
          refine e_iload_n dX9_finds_64 rfl rfl ?_
          refine e_callV (As := [zI _, zI _]) (cb := 10) dX9_finds_65 moX9_triesCopies mvX9_triesCopies mlX9_224 (by decide) rfl hM.1.1 rfl (Nat.le_of_ble_eq_true rfl) ⟨by decide, by decide, by decide, by decide⟩ (c_X9_triesCopies hl hM.1 (P := (fun q => S 40 (96 * c + q))) hF _ _ (by omega) (fun _ => rfl) (by omega)) (fun E h1 q => by cases q.1) (fun v h1 q => ?_)
          obtain ⟨e1, hF⟩ := q; cases e1; have hM := hF.1
          refine e_aload_n dX9_finds_68 rfl rfl ?_
          refine e_iload_n dX9_finds_69 rfl rfl ?_
          refine e_iload_n dX9_finds_70 rfl rfl ?_
          refine e_callV (As := [zI _, zI _]) (cb := 10) dX9_finds_71 moX9_triesFills mvX9_triesFills mlX9_227 (by decide) rfl hM.1.1 rfl (Nat.le_of_ble_eq_true rfl) ⟨by decide, by decide, by decide, by decide⟩ (c_X9_triesFills hl hM.1 (P := (fun q => S 40 (96 * c + q))) hF _ _ (by omega) (fun _ => rfl) (by omega)) (fun E h1 q => by cases q.1) (fun v h1 q => ?_)
          obtain ⟨e1, hF⟩ := q; cases e1; have hM := hF.1
          obtain ⟨h3, e3⟩ : ∃ h3, h3 = h1 := ⟨_, rfl⟩
          rw [← e3] at hM hF ⊢
          refine e_iconst dX9_finds_74 ?_
          refine e_istore_n dX9_finds_75 rfl (by decide) rfl rfl ?_
          have lp76 : ∀ (d : Nat) (m : Int), (12 - p % 12 - m).toNat < d → 0 ≤ m → m ≤ 12 - p % 12 → runR (fun q => S 40 (96 * c + q)) (fun q => screenAt S (S 35 c) q) p (12 - p % 12 - m).toNat = run9 (fun q => S 40 (96 * c + q)) (fun q => screenAt S (S 35 c) q) p → AW l MX9_finds (fun o h' => o = .inl (some (zI (b2 (fst9 (fun q => S 40 (96 * c + q)) (fun q => screenAt S (S 35 c) q) < 96)))) ∧ MM S h h' ∧ (fst9 (fun q => S 40 (96 * c + q)) (fun q => screenAt S (S 35 c) q) < 96 → FB S (fun q => screenAt S (S 35 c) q) h h' (bst (fun q => S 40 (96 * c + q)) (fun q => screenAt S (S 35 c) q)) (fst9 (fun q => S 40 (96 * c + q)) (fun q => screenAt S (S 35 c) q))) ∧ zf h' 1000 99 = zf h 1000 99) 0 0 76 [zR (some 99), zI c, zI p, zI m] [] h3 := by
            intro d
            induction d with
            | zero => intro m hd m0 m1 hm; exact absurd hd (by omega)
            | succ d ih =>
              have ih76 := ih
              intro m hd m0 m1 hm
              have hx : m < 12 - p % 12 → runR (fun q => S 40 (96 * c + q)) (fun q => screenAt S (S 35 c) q) p (12 - p % 12 - m).toNat = if S 40 (96 * c + (p + m)) = screenAt S (S 35 c) (p + m) then m else runR (fun q => S 40 (96 * c + q)) (fun q => screenAt S (S 35 c) q) p (12 - p % 12 - (m + 1)).toNat := by
                intro z
                rw [show (12 - p % 12 - m).toNat = (12 - p % 12 - (m + 1)).toNat + 1 by omega]
                rw [runR_s]
                rw [show 12 - p % 12 - ((((12 - p % 12 - (m + 1)).toNat : Nat) : Int) + 1) = m by omega]
              refine e_iload_n dX9_finds_76 rfl rfl ?_
              refine e_bipush dX9_finds_77 (by decide) ?_
              refine e_irem dX9_finds_79 (by omega) (by omega) (by omega) (by omega) ?_
              refine e_iload_n dX9_finds_80 rfl rfl ?_
              refine e_iadd dX9_finds_81 ?_
              refine e_bipush dX9_finds_82 (by decide) ?_
              refine e_icmp_ge (tgt := 117) dX9_finds_84 (by decide) (by omega) (by omega) (fun c84 => ?_) (fun c84 => ?_)
              · skip
                have hm : m = run9 (fun q => S 40 (96 * c + q)) (fun q => screenAt S (S 35 c) q) p := by rw [show (12 - p % 12 - m).toNat = 0 by omega] at hm; have hm8 : 12 - p % 12 = _ := hm; omega
                refine e_aload_n dX9_finds_117 rfl rfl ?_
                refine e_bipush dX9_finds_118 (by decide) ?_
                refine e_iconst dX9_finds_120 ?_
                refine e_iload_n dX9_finds_121 rfl rfl ?_
                refine e_iadd dX9_finds_122 ?_
                refine e_iload_n dX9_finds_123 rfl rfl ?_
                refine e_iload_n dX9_finds_124 rfl rfl ?_
                refine e_iconst dX9_finds_125 ?_
                refine e_iconst dX9_finds_126 ?_
                have hm9 : m = run9 (fun q => S 40 (96 * c + q)) (fun q => screenAt S (S 35 c) q) p := hm
                refine e_callV (As := [zI _, zI _, zI _, zI _, zI _, zI _]) (cb := 10) dX9_finds_127 moX9_tries mvX9_tries mlX9_217 (by decide) rfl hM.1.1 rfl (Nat.le_of_ble_eq_true rfl) ⟨by decide, by decide, by decide, by decide⟩ (c_X9_tries hl hM.1 (P := (fun q => S 40 (96 * c + q))) hF _ _ _ _ _ _ (by omega) (by omega) (by omega) (by omega) (by omega) (by omega)) (fun E h1 q => by cases q.1) (fun v h1 q => ?_)
                obtain ⟨e1, hF⟩ := q; cases e1; have hM := hF.1
                refine e_iconst dX9_finds_130 ?_
                refine e_iret dX9_finds_131 rfl (by first | exact Or.inl rfl | exact Or.inr rfl | assumption | exact b2_01) (by decide) (by decide) ?_
                exact ⟨zqe (by rw [b2_t (by omega)]), hM, fun _ => by rw [hm9, hp9] at hF; rw [tr_eq (flW_eq (cpA_eq (c := (0, 0, 0, 0, 0, 0)) (Or.inr ⟨rfl, rfl⟩) 25) 12)] at hF; exact hF, hF.2.2.2.2.2.2.2.2.2.2⟩
              · skip
                refine e_aload_n dX9_finds_87 rfl rfl ?_
                refine m_arr 40 dX9_finds_88 flX9_119 rfl hM (by decide) ?_
                refine e_bipush dX9_finds_91 (by decide) ?_
                refine e_iload_n dX9_finds_93 rfl rfl ?_
                refine e_imul dX9_finds_94 ?_
                refine e_iload_n dX9_finds_95 rfl rfl ?_
                refine e_iadd dX9_finds_96 ?_
                refine e_iload_n dX9_finds_97 rfl rfl ?_
                refine e_iadd dX9_finds_98 ?_
                refine m_ld dX9_finds_99 hM (by decide) rfl (by omega) (by simp only [mL]; omega) (by rw [Int.add_assoc]) (fun r99 => ?_)
                refine e_aload_n dX9_finds_100 rfl rfl ?_
                refine m_arr 41 dX9_finds_101 flX9_122 rfl hM (by decide) ?_
                refine e_iload_n dX9_finds_104 rfl rfl ?_
                refine e_iload_n dX9_finds_105 rfl rfl ?_
                refine e_iadd dX9_finds_106 ?_
                refine m_ldX dX9_finds_107 hM (by decide) (by omega) (by omega) (hF.2.1 (p + m) (by omega) (by omega)) (fun r107 => ?_)
                refine e_icmp_eq (tgt := 117) dX9_finds_108 (by decide) (by omega) (by omega) (fun c108 => ?_) (fun c108 => ?_)
                · skip
                  rw [hx (by omega), if_pos (by omega)] at hm
                  have m9 : 1 ≤ m := by
                    rcases Int.lt_or_le 0 m with z | z
                    · omega
                    · exfalso
                      have z0 : m = 0 := by omega
                      rw [z0, Int.add_zero] at c108
                      first | omega | exact c40 c108
                  refine e_aload_n dX9_finds_117 rfl rfl ?_
                  refine e_bipush dX9_finds_118 (by decide) ?_
                  refine e_iconst dX9_finds_120 ?_
                  refine e_iload_n dX9_finds_121 rfl rfl ?_
                  refine e_iadd dX9_finds_122 ?_
                  refine e_iload_n dX9_finds_123 rfl rfl ?_
                  refine e_iload_n dX9_finds_124 rfl rfl ?_
                  refine e_iconst dX9_finds_125 ?_
                  refine e_iconst dX9_finds_126 ?_
                  have hm9 : m = run9 (fun q => S 40 (96 * c + q)) (fun q => screenAt S (S 35 c) q) p := hm
                  refine e_callV (As := [zI _, zI _, zI _, zI _, zI _, zI _]) (cb := 10) dX9_finds_127 moX9_tries mvX9_tries mlX9_217 (by decide) rfl hM.1.1 rfl (Nat.le_of_ble_eq_true rfl) ⟨by decide, by decide, by decide, by decide⟩ (c_X9_tries hl hM.1 (P := (fun q => S 40 (96 * c + q))) hF _ _ _ _ _ _ (by omega) (by omega) (by omega) (by omega) (by omega) (by omega)) (fun E h1 q => by cases q.1) (fun v h1 q => ?_)
                  obtain ⟨e1, hF⟩ := q; cases e1; have hM := hF.1
                  refine e_iconst dX9_finds_130 ?_
                  refine e_iret dX9_finds_131 rfl (by first | exact Or.inl rfl | exact Or.inr rfl | assumption | exact b2_01) (by decide) (by decide) ?_
                  exact ⟨zqe (by rw [b2_t (by omega)]), hM, fun _ => by rw [hm9, hp9] at hF; rw [tr_eq (flW_eq (cpA_eq (c := (0, 0, 0, 0, 0, 0)) (Or.inr ⟨rfl, rfl⟩) 25) 12)] at hF; exact hF, hF.2.2.2.2.2.2.2.2.2.2⟩
                · skip
                  refine e_iinc dX9_finds_111 (by decide) rfl rfl rfl rfl ?_
                  refine e_goto (tgt := 76) dX9_finds_114 (by decide) ?_
                  refine ih76 _ (by omega) (by omega) (by omega) ?_
                  rw [hx (by omega), if_neg (by omega)] at hm
                  exact hm
          exact lp76 13 0 (by omega) (by omega) (by omega) (by rw [Int.sub_zero]; rfl)
        · skip
          refine e_iconst dX9_finds_55 ?_
          refine e_iret dX9_finds_56 rfl (by first | exact Or.inl rfl | exact Or.inr rfl | assumption | exact b2_01) (by decide) (by decide) ?_
          exact ⟨zqe (by rw [b2_f]; intro z; first | (rw [show (96 - p).toNat = 0 by omega] at hp; have hp8 : (96 : Int) = _ := hp; omega) | omega), hM, fun z => by exfalso; first | (rw [show (96 - p).toNat = 0 by omega] at hp; have hp8 : (96 : Int) = _ := hp; omega) | omega, hF.2.2.2.2.2.2.2.2.2.2⟩
      · skip
        refine e_aload_n dX9_finds_23 rfl rfl ?_
        refine m_arr 40 dX9_finds_24 flX9_119 rfl hM (by decide) ?_
        refine e_bipush dX9_finds_27 (by decide) ?_
        refine e_iload_n dX9_finds_29 rfl rfl ?_
        refine e_imul dX9_finds_30 ?_
        refine e_iload_n dX9_finds_31 rfl rfl ?_
        refine e_iadd dX9_finds_32 ?_
        refine m_ld dX9_finds_33 hM (by decide) rfl (by omega) (by simp only [mL]; omega) rfl (fun r33 => ?_)
        refine e_aload_n dX9_finds_34 rfl rfl ?_
        refine m_arr 41 dX9_finds_35 flX9_122 rfl hM (by decide) ?_
        refine e_iload_n dX9_finds_38 rfl rfl ?_
        refine m_ldX dX9_finds_39 hM (by decide) (by omega) (by omega) (hF.2.1 p (by omega) (by omega)) (fun r39 => ?_)
        refine e_icmp_ne (tgt := 49) dX9_finds_40 (by decide) (by omega) (by omega) (fun c40 => ?_) (fun c40 => ?_)
        · skip
          rw [hx (by omega), if_neg (by omega)] at hp
          refine e_iload_n dX9_finds_49 rfl rfl ?_
          refine e_bipush dX9_finds_50 (by decide) ?_
          refine e_icmp_ne (tgt := 57) dX9_finds_52 (by decide) (by omega) (by omega) (fun c52 => ?_) (fun c52 => ?_)
          · skip
            have hp9 : p = fst9 (fun q => S 40 (96 * c + q)) (fun q => screenAt S (S 35 c) q) := by first | exact hp | omega
            refine e_aload_n dX9_finds_57 rfl rfl ?_
            refine e_iload_n dX9_finds_58 rfl rfl ?_
            refine m_putX 46 dX9_finds_59 flX9_221 (Or.inl rfl) trivial hM (by unfold mX; omega) (by omega) (fun hM => ?_)
            obtain ⟨h4, e4⟩ : ∃ h4, h4 = sf h2 (1000 + 46) 99 p := ⟨_, rfl⟩
            rw [← e4] at hM ⊢
            have hF : FB S (fun q => screenAt S (S 35 c) q) h h4 (zf h2 1043 99, 0, zf h2 1045 99, zf h2 1047 99, zf h2 1048 99, zf h2 1049 99) p := ⟨hM, by rw [e4]; exact hF.2.1, by rw [e4]; rfl, by rw [e4]; exact hF.2.2.2.1, by rw [e4]; rfl, by rw [e4]; rfl, by rw [e4]; rfl, by rw [e4]; rfl, by rw [e4]; rfl, Or.inl rfl, by rw [e4]; exact hF.2.2.2.2.2.2.2.2.2.2⟩
            refine e_aload_n dX9_finds_62 rfl rfl ?_
            refine e_iload_n dX9_finds_63 rfl rfl ?_
            refine e_iload_n dX9_finds_64 rfl rfl ?_
            refine e_callV (As := [zI _, zI _]) (cb := 10) dX9_finds_65 moX9_triesCopies mvX9_triesCopies mlX9_224 (by decide) rfl hM.1.1 rfl (Nat.le_of_ble_eq_true rfl) ⟨by decide, by decide, by decide, by decide⟩ (c_X9_triesCopies hl hM.1 (P := (fun q => S 40 (96 * c + q))) hF _ _ (by omega) (fun _ => rfl) (by omega)) (fun E h1 q => by cases q.1) (fun v h1 q => ?_)
            obtain ⟨e1, hF⟩ := q; cases e1; have hM := hF.1
            refine e_aload_n dX9_finds_68 rfl rfl ?_
            refine e_iload_n dX9_finds_69 rfl rfl ?_
            refine e_iload_n dX9_finds_70 rfl rfl ?_
            refine e_callV (As := [zI _, zI _]) (cb := 10) dX9_finds_71 moX9_triesFills mvX9_triesFills mlX9_227 (by decide) rfl hM.1.1 rfl (Nat.le_of_ble_eq_true rfl) ⟨by decide, by decide, by decide, by decide⟩ (c_X9_triesFills hl hM.1 (P := (fun q => S 40 (96 * c + q))) hF _ _ (by omega) (fun _ => rfl) (by omega)) (fun E h1 q => by cases q.1) (fun v h1 q => ?_)
            obtain ⟨e1, hF⟩ := q; cases e1; have hM := hF.1
            obtain ⟨h3, e3⟩ : ∃ h3, h3 = h1 := ⟨_, rfl⟩
            rw [← e3] at hM hF ⊢
            refine e_iconst dX9_finds_74 ?_
            refine e_istore_n dX9_finds_75 rfl (by decide) rfl rfl ?_
            have lp76 : ∀ (d : Nat) (m : Int), (12 - p % 12 - m).toNat < d → 0 ≤ m → m ≤ 12 - p % 12 → runR (fun q => S 40 (96 * c + q)) (fun q => screenAt S (S 35 c) q) p (12 - p % 12 - m).toNat = run9 (fun q => S 40 (96 * c + q)) (fun q => screenAt S (S 35 c) q) p → AW l MX9_finds (fun o h' => o = .inl (some (zI (b2 (fst9 (fun q => S 40 (96 * c + q)) (fun q => screenAt S (S 35 c) q) < 96)))) ∧ MM S h h' ∧ (fst9 (fun q => S 40 (96 * c + q)) (fun q => screenAt S (S 35 c) q) < 96 → FB S (fun q => screenAt S (S 35 c) q) h h' (bst (fun q => S 40 (96 * c + q)) (fun q => screenAt S (S 35 c) q)) (fst9 (fun q => S 40 (96 * c + q)) (fun q => screenAt S (S 35 c) q))) ∧ zf h' 1000 99 = zf h 1000 99) 0 0 76 [zR (some 99), zI c, zI p, zI m] [] h3 := by
              intro d
              induction d with
              | zero => intro m hd m0 m1 hm; exact absurd hd (by omega)
              | succ d ih =>
                have ih76 := ih
                intro m hd m0 m1 hm
                have hx : m < 12 - p % 12 → runR (fun q => S 40 (96 * c + q)) (fun q => screenAt S (S 35 c) q) p (12 - p % 12 - m).toNat = if S 40 (96 * c + (p + m)) = screenAt S (S 35 c) (p + m) then m else runR (fun q => S 40 (96 * c + q)) (fun q => screenAt S (S 35 c) q) p (12 - p % 12 - (m + 1)).toNat := by
                  intro z
                  rw [show (12 - p % 12 - m).toNat = (12 - p % 12 - (m + 1)).toNat + 1 by omega]
                  rw [runR_s]
                  rw [show 12 - p % 12 - ((((12 - p % 12 - (m + 1)).toNat : Nat) : Int) + 1) = m by omega]
                refine e_iload_n dX9_finds_76 rfl rfl ?_
                refine e_bipush dX9_finds_77 (by decide) ?_
                refine e_irem dX9_finds_79 (by omega) (by omega) (by omega) (by omega) ?_
                refine e_iload_n dX9_finds_80 rfl rfl ?_
                refine e_iadd dX9_finds_81 ?_
                refine e_bipush dX9_finds_82 (by decide) ?_
                refine e_icmp_ge (tgt := 117) dX9_finds_84 (by decide) (by omega) (by omega) (fun c84 => ?_) (fun c84 => ?_)
                · skip
                  have hm : m = run9 (fun q => S 40 (96 * c + q)) (fun q => screenAt S (S 35 c) q) p := by rw [show (12 - p % 12 - m).toNat = 0 by omega] at hm; have hm8 : 12 - p % 12 = _ := hm; omega
                  refine e_aload_n dX9_finds_117 rfl rfl ?_
                  refine e_bipush dX9_finds_118 (by decide) ?_
                  refine e_iconst dX9_finds_120 ?_
                  refine e_iload_n dX9_finds_121 rfl rfl ?_
                  refine e_iadd dX9_finds_122 ?_
                  refine e_iload_n dX9_finds_123 rfl rfl ?_
                  refine e_iload_n dX9_finds_124 rfl rfl ?_
                  refine e_iconst dX9_finds_125 ?_
                  refine e_iconst dX9_finds_126 ?_
                  have hm9 : m = run9 (fun q => S 40 (96 * c + q)) (fun q => screenAt S (S 35 c) q) p := hm
                  refine e_callV (As := [zI _, zI _, zI _, zI _, zI _, zI _]) (cb := 10) dX9_finds_127 moX9_tries mvX9_tries mlX9_217 (by decide) rfl hM.1.1 rfl (Nat.le_of_ble_eq_true rfl) ⟨by decide, by decide, by decide, by decide⟩ (c_X9_tries hl hM.1 (P := (fun q => S 40 (96 * c + q))) hF _ _ _ _ _ _ (by omega) (by omega) (by omega) (by omega) (by omega) (by omega)) (fun E h1 q => by cases q.1) (fun v h1 q => ?_)
                  obtain ⟨e1, hF⟩ := q; cases e1; have hM := hF.1
                  refine e_iconst dX9_finds_130 ?_
                  refine e_iret dX9_finds_131 rfl (by first | exact Or.inl rfl | exact Or.inr rfl | assumption | exact b2_01) (by decide) (by decide) ?_
                  exact ⟨zqe (by rw [b2_t (by omega)]), hM, fun _ => by rw [hm9, hp9] at hF; rw [tr_eq (flW_eq (cpA_eq (c := (0, 0, 0, 0, 0, 0)) (Or.inr ⟨rfl, rfl⟩) 25) 12)] at hF; exact hF, hF.2.2.2.2.2.2.2.2.2.2⟩
                · skip
                  refine e_aload_n dX9_finds_87 rfl rfl ?_
                  refine m_arr 40 dX9_finds_88 flX9_119 rfl hM (by decide) ?_
                  refine e_bipush dX9_finds_91 (by decide) ?_
                  refine e_iload_n dX9_finds_93 rfl rfl ?_
                  refine e_imul dX9_finds_94 ?_
                  refine e_iload_n dX9_finds_95 rfl rfl ?_
                  refine e_iadd dX9_finds_96 ?_
                  refine e_iload_n dX9_finds_97 rfl rfl ?_
                  refine e_iadd dX9_finds_98 ?_
                  refine m_ld dX9_finds_99 hM (by decide) rfl (by omega) (by simp only [mL]; omega) (by rw [Int.add_assoc]) (fun r99 => ?_)
                  refine e_aload_n dX9_finds_100 rfl rfl ?_
                  refine m_arr 41 dX9_finds_101 flX9_122 rfl hM (by decide) ?_
                  refine e_iload_n dX9_finds_104 rfl rfl ?_
                  refine e_iload_n dX9_finds_105 rfl rfl ?_
                  refine e_iadd dX9_finds_106 ?_
                  refine m_ldX dX9_finds_107 hM (by decide) (by omega) (by omega) (hF.2.1 (p + m) (by omega) (by omega)) (fun r107 => ?_)
                  refine e_icmp_eq (tgt := 117) dX9_finds_108 (by decide) (by omega) (by omega) (fun c108 => ?_) (fun c108 => ?_)
                  · skip
                    rw [hx (by omega), if_pos (by omega)] at hm
                    have m9 : 1 ≤ m := by
                      rcases Int.lt_or_le 0 m with z | z
                      · omega
                      · exfalso
                        have z0 : m = 0 := by omega
                        rw [z0, Int.add_zero] at c108
                        first | omega | exact c40 c108
                    refine e_aload_n dX9_finds_117 rfl rfl ?_
                    refine e_bipush dX9_finds_118 (by decide) ?_
                    refine e_iconst dX9_finds_120 ?_
                    refine e_iload_n dX9_finds_121 rfl rfl ?_
                    refine e_iadd dX9_finds_122 ?_
                    refine e_iload_n dX9_finds_123 rfl rfl ?_
                    refine e_iload_n dX9_finds_124 rfl rfl ?_
                    refine e_iconst dX9_finds_125 ?_
                    refine e_iconst dX9_finds_126 ?_
                    have hm9 : m = run9 (fun q => S 40 (96 * c + q)) (fun q => screenAt S (S 35 c) q) p := hm
                    refine e_callV (As := [zI _, zI _, zI _, zI _, zI _, zI _]) (cb := 10) dX9_finds_127 moX9_tries mvX9_tries mlX9_217 (by decide) rfl hM.1.1 rfl (Nat.le_of_ble_eq_true rfl) ⟨by decide, by decide, by decide, by decide⟩ (c_X9_tries hl hM.1 (P := (fun q => S 40 (96 * c + q))) hF _ _ _ _ _ _ (by omega) (by omega) (by omega) (by omega) (by omega) (by omega)) (fun E h1 q => by cases q.1) (fun v h1 q => ?_)
                    obtain ⟨e1, hF⟩ := q; cases e1; have hM := hF.1
                    refine e_iconst dX9_finds_130 ?_
                    refine e_iret dX9_finds_131 rfl (by first | exact Or.inl rfl | exact Or.inr rfl | assumption | exact b2_01) (by decide) (by decide) ?_
                    exact ⟨zqe (by rw [b2_t (by omega)]), hM, fun _ => by rw [hm9, hp9] at hF; rw [tr_eq (flW_eq (cpA_eq (c := (0, 0, 0, 0, 0, 0)) (Or.inr ⟨rfl, rfl⟩) 25) 12)] at hF; exact hF, hF.2.2.2.2.2.2.2.2.2.2⟩
                  · skip
                    refine e_iinc dX9_finds_111 (by decide) rfl rfl rfl rfl ?_
                    refine e_goto (tgt := 76) dX9_finds_114 (by decide) ?_
                    refine ih76 _ (by omega) (by omega) (by omega) ?_
                    rw [hx (by omega), if_neg (by omega)] at hm
                    exact hm
            exact lp76 13 0 (by omega) (by omega) (by omega) (by rw [Int.sub_zero]; rfl)
          · skip
            refine e_iconst dX9_finds_55 ?_
            refine e_iret dX9_finds_56 rfl (by first | exact Or.inl rfl | exact Or.inr rfl | assumption | exact b2_01) (by decide) (by decide) ?_
            exact ⟨zqe (by rw [b2_f]; intro z; first | (rw [show (96 - p).toNat = 0 by omega] at hp; have hp8 : (96 : Int) = _ := hp; omega) | omega), hM, fun z => by exfalso; first | (rw [show (96 - p).toNat = 0 by omega] at hp; have hp8 : (96 : Int) = _ := hp; omega) | omega, hF.2.2.2.2.2.2.2.2.2.2⟩
        · skip
          refine e_iinc dX9_finds_43 (by decide) rfl rfl rfl rfl ?_
          refine e_goto (tgt := 17) dX9_finds_46 (by decide) ?_
          refine ih17 _ (by omega) (by omega) (by omega) ?_
          rw [hx (by omega), if_pos (by omega)] at hp
          exact hp
  exact lp17 97 0 (by omega) (by omega) (by omega) rfl
