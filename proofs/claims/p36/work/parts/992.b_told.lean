/-! told: what is behind and what would be sent hold together -/
theorem QI_all {S : S9} {h h' : zH} {k w : Int} {o : zO} (q : QI S h k w S o h') : o = .inl (some (zI w)) ∧ FQ h h' ∧ RC S h' := ⟨q.1, q.2.1, q.2.2.elim (fun y => y.2) (fun y => y.2)⟩
theorem nn {p : Prop} (h : p) : ¬ ¬ p := fun z => z h
set_option maxHeartbeats 4000000 in
set_option maxRecDepth 100000 in
theorem c_L_told {l : Launch} (hl : l.stackTraces = false) {S : S9} {h : zH} {B : Int} (hR : RC S h) (hI : II S B) (c s : Int) (hc : isC S c) (hs : s = S 35 c) (hcol : ∀ p, 0 ≤ p → p < 96 → (0 ≤ S 40 (96 * c + p) ∧ S 40 (96 * c + p) < 256) ∧ 0 ≤ screenAt S s p ∧ screenAt S s p < 256) : zC l ML_told [zR (some 2), zI c, zI s] h (fun o h' => o = .inl (some (zI 1)) ∧ RC S h' ∧ FQ h h') := by
  have hcs := hI.1.2.2.2.1 c hc.1 hc.2
  have n1 := hI.1.1.2.1
  have n2 := hI.1.1.2.2.2.1
  have hc1 := hc.1
  have hc2 := hc.2
  have hsS : isS S s := by rw [hs]; exact hcs
  have hcz : zin c := ⟨by omega, by omega⟩
  have hsz : zin s := ⟨by omega, by omega⟩
  have hm := hI.2.2.1.2.2 c hc.1 hc.2
  have hcn : cntB S c = sg (fun p => b2 (S 40 (96 * c + p) ≠ screenAt S s p)) (96 : Int).toNat := by rw [hs]; rfl
  have hcin := cntB_in (S := S) (c := c)
  have hh := has_cnt (S := S) (c := c)
  obtain ⟨k4, hk4⟩ : ∃ k4 : Int, k4 = (if ¬ isC S c then 1 else if ¬ hasN S c then 2 else 0) := ⟨_, rfl⟩
  obtain ⟨v4, hv4⟩ : ∃ v4 : Int, v4 = lw2 k4 (bstC S c).1 (-2500000) (-3000000) := ⟨_, rfl⟩
  obtain ⟨v5, hv5⟩ : ∃ v5 : Int, v5 = lw2 k4 (bstC S c).2.1 (-2500000) (-3000000) := ⟨_, rfl⟩
  have f4 : (hasN S c → v4 = (bstC S c).1 ∧ v5 = (bstC S c).2.1) ∧ (¬ hasN S c → v4 = -3000000 ∧ v5 = -3000000) := by
    refine ⟨fun y => ?_, fun y => ?_⟩
    · rw [if_neg (nn hc), if_neg (nn y)] at hk4
      rw [hv4, hv5, hk4]
      exact ⟨rfl, rfl⟩
    · rw [if_neg (nn hc), if_pos y] at hk4
      rw [hv4, hv5, hk4]
      exact ⟨rfl, rfl⟩
  refine zC_of hl rfl rfl (by decide) rfl rfl (Nat.le_of_ble_eq_true rfl) ?_
  refine e_iconst dL_told_0 ?_
  refine e_istore_n dL_told_1 rfl (Nat.le_of_ble_eq_true rfl) rfl rfl ?_
  refine e_aload_n dL_told_2 rfl rfl ?_
  refine e_iload_n dL_told_3 rfl rfl ?_
  refine e_callH (As := [zR _, zI _]) dL_told_4 hoL_next mlL_131 rfl (Nat.le_of_ble_eq_true rfl) ⟨by decide, by decide, by decide, by decide⟩ (c_L_next hl hR hI c hcz k4 hk4) (fun E h9 q => (QI_inl q).elim) (fun v9 h9 q => ?_)
  obtain ⟨e1, qf4, hR4⟩ := QI_all q
  cases e1
  rw [← hv4]
  refine e_istore dL_told_7 (Nat.le_of_ble_eq_true rfl) rfl rfl ?_
  refine e_aload_n dL_told_9 rfl rfl ?_
  refine e_iload_n dL_told_10 rfl rfl ?_
  refine e_callH (As := [zR _, zI _]) dL_told_11 hoL_nextCost mlL_134 rfl (Nat.le_of_ble_eq_true rfl) ⟨by decide, by decide, by decide, by decide⟩ (c_L_nextCost hl hR4 hI c hcz k4 hk4) (fun E h9 q => (QI_inl q).elim) (fun v9 h9 q => ?_)
  obtain ⟨e1, qf5, hR5⟩ := QI_all q
  cases e1
  rw [← hv5]
  refine e_istore dL_told_14 (Nat.le_of_ble_eq_true rfl) rfl rfl ?_
  refine e_iconst dL_told_16 ?_
  refine e_istore dL_told_17 (Nat.le_of_ble_eq_true rfl) rfl rfl ?_
  have J68 : ∀ h3 (k n : Nat), k + 11 ≤ 779 → n + 66 ≤ 5826 → RC S h3 → FQ h h3 → AW l ML_told (fun o h' => o = .inl (some (zI 1)) ∧ RC S h' ∧ FQ h h') k n 68 [zR (some 2), zI c, zI s, zI (cntB S c), zI v4, zI v5, zI 96] [] h3 := by
    intro h3 k n hk hn hR3 hf3
    by_cases hn9 : hasN S c
    · obtain ⟨g4, g5⟩ := f4.1 hn9
      have gz : cntB S c ≠ 0 := hh.mp hn9
      have gb := bstC_G hn9
      have gk := bstC_ok hn9
      rw [← g4, ← g5] at gb
      rcases gb.1 with ⟨b1, b3⟩ | ⟨b1, b3⟩ | ⟨b1, b3, b4⟩
      · skip
        refine e_aload_n dL_told_68 rfl rfl ?_
        refine e_iload_n dL_told_69 rfl rfl ?_
        refine e_callH (As := [zR _, zI _]) dL_told_70 hoL_behind mlL_141 rfl (Nat.le_of_ble_eq_true rfl) ⟨by decide, by decide, by show k + 1 ≤ 779; omega, by show n + 6 ≤ 5826; omega⟩ (c_L_behind hl hR3 hI c hcz 0 (Eq.symm (if_neg (nn hc)))) (fun E h9 q => (QI_inl q).elim) (fun v9 h9 q => ?_)
        obtain ⟨e1, qf6, hR6⟩ := QI_all q
        cases e1
        rw [lw1_0]
        refine e_iload_n dL_told_73 rfl rfl ?_
        refine e_icmp_ne (tgt := 143) dL_told_74 (by decide) (by omega) (by omega) (fun c74 => by exfalso; exact c74 rfl) (fun c74 => ?_)
        refine e_iload dL_told_77 rfl ?_
        refine e_ldcI (z := -3000000) dL_told_79 ctL_70 ?_
        refine e_icmp_ne (tgt := 88) dL_told_81 (by decide) (by omega) (by omega) (fun c81 => ?_) (fun c81 => by exfalso; omega)
        refine e_iconst dL_told_88 ?_
        refine e_iload_n dL_told_89 rfl rfl ?_
        refine e_if_ne (tgt := 97) dL_told_90 (by decide) (by omega) (fun c90 => ?_) (fun c90 => by exfalso; omega)
        refine e_iconst dL_told_97 ?_
        refine e_icmp_ne (tgt := 143) dL_told_98 (by decide) (by omega) (by omega) (fun c98 => by exfalso; exact c98 rfl) (fun c98 => ?_)
        refine e_iload dL_told_101 rfl ?_
        refine e_ldcI (z := -3000000) dL_told_103 ctL_70 ?_
        refine e_icmp_ne (tgt := 112) dL_told_105 (by decide) (by omega) (by omega) (fun c105 => ?_) (fun c105 => by exfalso; omega)
        refine e_iconst dL_told_112 ?_
        refine e_iload_n dL_told_113 rfl rfl ?_
        refine e_if_ne (tgt := 121) dL_told_114 (by decide) (by omega) (fun c114 => ?_) (fun c114 => by exfalso; omega)
        refine e_iconst dL_told_121 ?_
        refine e_icmp_ne (tgt := 143) dL_told_122 (by decide) (by omega) (by omega) (fun c122 => by exfalso; exact c122 rfl) (fun c122 => ?_)
        refine e_aload_n dL_told_125 rfl rfl ?_
        refine e_iload_n dL_told_126 rfl rfl ?_
        refine e_callH (As := [zR _, zI _]) dL_told_127 hoL_money mlL_143 rfl (Nat.le_of_ble_eq_true rfl) ⟨by decide, by decide, by show k + 2 ≤ 779; omega, by show n + 12 ≤ 5826; omega⟩ (c_L_money hl hR6 hI c hcz 0 (Eq.symm (if_neg (nn hc)))) (fun E h9 q => (QI_inl q).elim) (fun v9 h9 q => ?_)
        obtain ⟨e1, qf7, hR7⟩ := QI_all q
        cases e1
        rw [lw1_0]
        refine e_if_lt (tgt := 143) dL_told_130 (by decide) (by omega) (fun c130 => by exfalso; omega) (fun c130 => ?_)
        refine e_aload_n dL_told_133 rfl rfl ?_
        refine e_iload_n dL_told_134 rfl rfl ?_
        refine e_callH (As := [zR _, zI _]) dL_told_135 hoL_money mlL_143 rfl (Nat.le_of_ble_eq_true rfl) ⟨by decide, by decide, by show k + 3 ≤ 779; omega, by show n + 18 ≤ 5826; omega⟩ (c_L_money hl hR7 hI c hcz 0 (Eq.symm (if_neg (nn hc)))) (fun E h9 q => (QI_inl q).elim) (fun v9 h9 q => ?_)
        obtain ⟨e1, qf8, hR8⟩ := QI_all q
        cases e1
        rw [lw1_0]
        refine e_bipush dL_told_138 (by decide) ?_
        refine e_icmp_le (tgt := 145) dL_told_140 (by decide) (by omega) (by omega) (fun c140 => ?_) (fun c140 => by exfalso; omega)
        refine e_iload dL_told_145 rfl ?_
        refine e_ldcI (z := -3000000) dL_told_147 ctL_70 ?_
        refine e_icmp_eq (tgt := 199) dL_told_149 (by decide) (by omega) (by omega) (fun c149 => by exfalso; omega) (fun c149 => ?_)
        refine e_iload dL_told_152 rfl ?_
        refine e_bipush dL_told_154 (by decide) ?_
        refine e_icmp_ne (tgt := 166) dL_told_156 (by decide) (by omega) (by omega) (fun c156 => by exfalso; omega) (fun c156 => ?_)
        refine e_iload dL_told_159 rfl ?_
        refine e_bipush dL_told_161 (by decide) ?_
        refine e_icmp_eq (tgt := 199) dL_told_163 (by decide) (by omega) (by omega) (fun c163 => ?_) (fun c163 => by exfalso; omega)
        refine e_iconst dL_told_199 ?_
        refine e_goto (tgt := 204) dL_told_200 (by decide) ?_
        refine e_iret dL_told_204 rfl (Or.inr rfl) (by show k + 3 ≤ 779; omega) (by show n + 18 ≤ 5826; omega) ?_
        exact ⟨rfl, hR8, FQ_tr (FQ_tr (FQ_tr hf3 qf6) qf7) qf8⟩
      · skip
        refine e_aload_n dL_told_68 rfl rfl ?_
        refine e_iload_n dL_told_69 rfl rfl ?_
        refine e_callH (As := [zR _, zI _]) dL_told_70 hoL_behind mlL_141 rfl (Nat.le_of_ble_eq_true rfl) ⟨by decide, by decide, by show k + 1 ≤ 779; omega, by show n + 6 ≤ 5826; omega⟩ (c_L_behind hl hR3 hI c hcz 0 (Eq.symm (if_neg (nn hc)))) (fun E h9 q => (QI_inl q).elim) (fun v9 h9 q => ?_)
        obtain ⟨e1, qf6, hR6⟩ := QI_all q
        cases e1
        rw [lw1_0]
        refine e_iload_n dL_told_73 rfl rfl ?_
        refine e_icmp_ne (tgt := 143) dL_told_74 (by decide) (by omega) (by omega) (fun c74 => by exfalso; exact c74 rfl) (fun c74 => ?_)
        refine e_iload dL_told_77 rfl ?_
        refine e_ldcI (z := -3000000) dL_told_79 ctL_70 ?_
        refine e_icmp_ne (tgt := 88) dL_told_81 (by decide) (by omega) (by omega) (fun c81 => ?_) (fun c81 => by exfalso; omega)
        refine e_iconst dL_told_88 ?_
        refine e_iload_n dL_told_89 rfl rfl ?_
        refine e_if_ne (tgt := 97) dL_told_90 (by decide) (by omega) (fun c90 => ?_) (fun c90 => by exfalso; omega)
        refine e_iconst dL_told_97 ?_
        refine e_icmp_ne (tgt := 143) dL_told_98 (by decide) (by omega) (by omega) (fun c98 => by exfalso; exact c98 rfl) (fun c98 => ?_)
        refine e_iload dL_told_101 rfl ?_
        refine e_ldcI (z := -3000000) dL_told_103 ctL_70 ?_
        refine e_icmp_ne (tgt := 112) dL_told_105 (by decide) (by omega) (by omega) (fun c105 => ?_) (fun c105 => by exfalso; omega)
        refine e_iconst dL_told_112 ?_
        refine e_iload_n dL_told_113 rfl rfl ?_
        refine e_if_ne (tgt := 121) dL_told_114 (by decide) (by omega) (fun c114 => ?_) (fun c114 => by exfalso; omega)
        refine e_iconst dL_told_121 ?_
        refine e_icmp_ne (tgt := 143) dL_told_122 (by decide) (by omega) (by omega) (fun c122 => by exfalso; exact c122 rfl) (fun c122 => ?_)
        refine e_aload_n dL_told_125 rfl rfl ?_
        refine e_iload_n dL_told_126 rfl rfl ?_
        refine e_callH (As := [zR _, zI _]) dL_told_127 hoL_money mlL_143 rfl (Nat.le_of_ble_eq_true rfl) ⟨by decide, by decide, by show k + 2 ≤ 779; omega, by show n + 12 ≤ 5826; omega⟩ (c_L_money hl hR6 hI c hcz 0 (Eq.symm (if_neg (nn hc)))) (fun E h9 q => (QI_inl q).elim) (fun v9 h9 q => ?_)
        obtain ⟨e1, qf7, hR7⟩ := QI_all q
        cases e1
        rw [lw1_0]
        refine e_if_lt (tgt := 143) dL_told_130 (by decide) (by omega) (fun c130 => by exfalso; omega) (fun c130 => ?_)
        refine e_aload_n dL_told_133 rfl rfl ?_
        refine e_iload_n dL_told_134 rfl rfl ?_
        refine e_callH (As := [zR _, zI _]) dL_told_135 hoL_money mlL_143 rfl (Nat.le_of_ble_eq_true rfl) ⟨by decide, by decide, by show k + 3 ≤ 779; omega, by show n + 18 ≤ 5826; omega⟩ (c_L_money hl hR7 hI c hcz 0 (Eq.symm (if_neg (nn hc)))) (fun E h9 q => (QI_inl q).elim) (fun v9 h9 q => ?_)
        obtain ⟨e1, qf8, hR8⟩ := QI_all q
        cases e1
        rw [lw1_0]
        refine e_bipush dL_told_138 (by decide) ?_
        refine e_icmp_le (tgt := 145) dL_told_140 (by decide) (by omega) (by omega) (fun c140 => ?_) (fun c140 => by exfalso; omega)
        refine e_iload dL_told_145 rfl ?_
        refine e_ldcI (z := -3000000) dL_told_147 ctL_70 ?_
        refine e_icmp_eq (tgt := 199) dL_told_149 (by decide) (by omega) (by omega) (fun c149 => by exfalso; omega) (fun c149 => ?_)
        refine e_iload dL_told_152 rfl ?_
        refine e_bipush dL_told_154 (by decide) ?_
        refine e_icmp_ne (tgt := 166) dL_told_156 (by decide) (by omega) (by omega) (fun c156 => ?_) (fun c156 => by exfalso; omega)
        refine e_iload dL_told_166 rfl ?_
        refine e_bipush dL_told_168 (by decide) ?_
        refine e_icmp_ne (tgt := 179) dL_told_170 (by decide) (by omega) (by omega) (fun c170 => by exfalso; omega) (fun c170 => ?_)
        refine e_iload dL_told_173 rfl ?_
        refine e_iconst dL_told_175 ?_
        refine e_icmp_eq (tgt := 199) dL_told_176 (by decide) (by omega) (by omega) (fun c176 => ?_) (fun c176 => by exfalso; omega)
        refine e_iconst dL_told_199 ?_
        refine e_goto (tgt := 204) dL_told_200 (by decide) ?_
        refine e_iret dL_told_204 rfl (Or.inr rfl) (by show k + 3 ≤ 779; omega) (by show n + 18 ≤ 5826; omega) ?_
        exact ⟨rfl, hR8, FQ_tr (FQ_tr (FQ_tr hf3 qf6) qf7) qf8⟩
      · skip
        refine e_aload_n dL_told_68 rfl rfl ?_
        refine e_iload_n dL_told_69 rfl rfl ?_
        refine e_callH (As := [zR _, zI _]) dL_told_70 hoL_behind mlL_141 rfl (Nat.le_of_ble_eq_true rfl) ⟨by decide, by decide, by show k + 1 ≤ 779; omega, by show n + 6 ≤ 5826; omega⟩ (c_L_behind hl hR3 hI c hcz 0 (Eq.symm (if_neg (nn hc)))) (fun E h9 q => (QI_inl q).elim) (fun v9 h9 q => ?_)
        obtain ⟨e1, qf6, hR6⟩ := QI_all q
        cases e1
        rw [lw1_0]
        refine e_iload_n dL_told_73 rfl rfl ?_
        refine e_icmp_ne (tgt := 143) dL_told_74 (by decide) (by omega) (by omega) (fun c74 => by exfalso; exact c74 rfl) (fun c74 => ?_)
        refine e_iload dL_told_77 rfl ?_
        refine e_ldcI (z := -3000000) dL_told_79 ctL_70 ?_
        refine e_icmp_ne (tgt := 88) dL_told_81 (by decide) (by omega) (by omega) (fun c81 => ?_) (fun c81 => by exfalso; omega)
        refine e_iconst dL_told_88 ?_
        refine e_iload_n dL_told_89 rfl rfl ?_
        refine e_if_ne (tgt := 97) dL_told_90 (by decide) (by omega) (fun c90 => ?_) (fun c90 => by exfalso; omega)
        refine e_iconst dL_told_97 ?_
        refine e_icmp_ne (tgt := 143) dL_told_98 (by decide) (by omega) (by omega) (fun c98 => by exfalso; exact c98 rfl) (fun c98 => ?_)
        refine e_iload dL_told_101 rfl ?_
        refine e_ldcI (z := -3000000) dL_told_103 ctL_70 ?_
        refine e_icmp_ne (tgt := 112) dL_told_105 (by decide) (by omega) (by omega) (fun c105 => ?_) (fun c105 => by exfalso; omega)
        refine e_iconst dL_told_112 ?_
        refine e_iload_n dL_told_113 rfl rfl ?_
        refine e_if_ne (tgt := 121) dL_told_114 (by decide) (by omega) (fun c114 => ?_) (fun c114 => by exfalso; omega)
        refine e_iconst dL_told_121 ?_
        refine e_icmp_ne (tgt := 143) dL_told_122 (by decide) (by omega) (by omega) (fun c122 => by exfalso; exact c122 rfl) (fun c122 => ?_)
        refine e_aload_n dL_told_125 rfl rfl ?_
        refine e_iload_n dL_told_126 rfl rfl ?_
        refine e_callH (As := [zR _, zI _]) dL_told_127 hoL_money mlL_143 rfl (Nat.le_of_ble_eq_true rfl) ⟨by decide, by decide, by show k + 2 ≤ 779; omega, by show n + 12 ≤ 5826; omega⟩ (c_L_money hl hR6 hI c hcz 0 (Eq.symm (if_neg (nn hc)))) (fun E h9 q => (QI_inl q).elim) (fun v9 h9 q => ?_)
        obtain ⟨e1, qf7, hR7⟩ := QI_all q
        cases e1
        rw [lw1_0]
        refine e_if_lt (tgt := 143) dL_told_130 (by decide) (by omega) (fun c130 => by exfalso; omega) (fun c130 => ?_)
        refine e_aload_n dL_told_133 rfl rfl ?_
        refine e_iload_n dL_told_134 rfl rfl ?_
        refine e_callH (As := [zR _, zI _]) dL_told_135 hoL_money mlL_143 rfl (Nat.le_of_ble_eq_true rfl) ⟨by decide, by decide, by show k + 3 ≤ 779; omega, by show n + 18 ≤ 5826; omega⟩ (c_L_money hl hR7 hI c hcz 0 (Eq.symm (if_neg (nn hc)))) (fun E h9 q => (QI_inl q).elim) (fun v9 h9 q => ?_)
        obtain ⟨e1, qf8, hR8⟩ := QI_all q
        cases e1
        rw [lw1_0]
        refine e_bipush dL_told_138 (by decide) ?_
        refine e_icmp_le (tgt := 145) dL_told_140 (by decide) (by omega) (by omega) (fun c140 => ?_) (fun c140 => by exfalso; omega)
        refine e_iload dL_told_145 rfl ?_
        refine e_ldcI (z := -3000000) dL_told_147 ctL_70 ?_
        refine e_icmp_eq (tgt := 199) dL_told_149 (by decide) (by omega) (by omega) (fun c149 => by exfalso; omega) (fun c149 => ?_)
        refine e_iload dL_told_152 rfl ?_
        refine e_bipush dL_told_154 (by decide) ?_
        refine e_icmp_ne (tgt := 166) dL_told_156 (by decide) (by omega) (by omega) (fun c156 => ?_) (fun c156 => by exfalso; omega)
        refine e_iload dL_told_166 rfl ?_
        refine e_bipush dL_told_168 (by decide) ?_
        refine e_icmp_ne (tgt := 179) dL_told_170 (by decide) (by omega) (by omega) (fun c170 => ?_) (fun c170 => by exfalso; omega)
        refine e_iload dL_told_179 rfl ?_
        refine e_bipush dL_told_181 (by decide) ?_
        refine e_icmp_ne (tgt := 203) dL_told_183 (by decide) (by omega) (by omega) (fun c183 => by exfalso; omega) (fun c183 => ?_)
        refine e_iload dL_told_186 rfl ?_
        refine e_iconst dL_told_188 ?_
        refine e_icmp_le (tgt := 203) dL_told_189 (by decide) (by omega) (by omega) (fun c189 => by exfalso; omega) (fun c189 => ?_)
        refine e_iload dL_told_192 rfl ?_
        refine e_bipush dL_told_194 (by decide) ?_
        refine e_icmp_ge (tgt := 203) dL_told_196 (by decide) (by omega) (by omega) (fun c196 => by exfalso; omega) (fun c196 => ?_)
        refine e_iconst dL_told_199 ?_
        refine e_goto (tgt := 204) dL_told_200 (by decide) ?_
        refine e_iret dL_told_204 rfl (Or.inr rfl) (by show k + 3 ≤ 779; omega) (by show n + 18 ≤ 5826; omega) ?_
        exact ⟨rfl, hR8, FQ_tr (FQ_tr (FQ_tr hf3 qf6) qf7) qf8⟩
    · obtain ⟨g4, g5⟩ := f4.2 hn9
      have gz : cntB S c = 0 := Decidable.byContradiction (fun y => hn9 (hh.mpr y))
      refine e_aload_n dL_told_68 rfl rfl ?_
      refine e_iload_n dL_told_69 rfl rfl ?_
      refine e_callH (As := [zR _, zI _]) dL_told_70 hoL_behind mlL_141 rfl (Nat.le_of_ble_eq_true rfl) ⟨by decide, by decide, by show k + 1 ≤ 779; omega, by show n + 6 ≤ 5826; omega⟩ (c_L_behind hl hR3 hI c hcz 0 (Eq.symm (if_neg (nn hc)))) (fun E h9 q => (QI_inl q).elim) (fun v9 h9 q => ?_)
      obtain ⟨e1, qf6, hR6⟩ := QI_all q
      cases e1
      rw [lw1_0]
      refine e_iload_n dL_told_73 rfl rfl ?_
      refine e_icmp_ne (tgt := 143) dL_told_74 (by decide) (by omega) (by omega) (fun c74 => by exfalso; exact c74 rfl) (fun c74 => ?_)
      refine e_iload dL_told_77 rfl ?_
      refine e_ldcI (z := -3000000) dL_told_79 ctL_70 ?_
      refine e_icmp_ne (tgt := 88) dL_told_81 (by decide) (by omega) (by omega) (fun c81 => by exfalso; omega) (fun c81 => ?_)
      refine e_iconst dL_told_84 ?_
      refine e_goto (tgt := 89) dL_told_85 (by decide) ?_
      refine e_iload_n dL_told_89 rfl rfl ?_
      refine e_if_ne (tgt := 97) dL_told_90 (by decide) (by omega) (fun c90 => by exfalso; omega) (fun c90 => ?_)
      refine e_iconst dL_told_93 ?_
      refine e_goto (tgt := 98) dL_told_94 (by decide) ?_
      refine e_icmp_ne (tgt := 143) dL_told_98 (by decide) (by omega) (by omega) (fun c98 => by exfalso; exact c98 rfl) (fun c98 => ?_)
      refine e_iload dL_told_101 rfl ?_
      refine e_ldcI (z := -3000000) dL_told_103 ctL_70 ?_
      refine e_icmp_ne (tgt := 112) dL_told_105 (by decide) (by omega) (by omega) (fun c105 => by exfalso; omega) (fun c105 => ?_)
      refine e_iconst dL_told_108 ?_
      refine e_goto (tgt := 113) dL_told_109 (by decide) ?_
      refine e_iload_n dL_told_113 rfl rfl ?_
      refine e_if_ne (tgt := 121) dL_told_114 (by decide) (by omega) (fun c114 => by exfalso; omega) (fun c114 => ?_)
      refine e_iconst dL_told_117 ?_
      refine e_goto (tgt := 122) dL_told_118 (by decide) ?_
      refine e_icmp_ne (tgt := 143) dL_told_122 (by decide) (by omega) (by omega) (fun c122 => by exfalso; exact c122 rfl) (fun c122 => ?_)
      refine e_aload_n dL_told_125 rfl rfl ?_
      refine e_iload_n dL_told_126 rfl rfl ?_
      refine e_callH (As := [zR _, zI _]) dL_told_127 hoL_money mlL_143 rfl (Nat.le_of_ble_eq_true rfl) ⟨by decide, by decide, by show k + 2 ≤ 779; omega, by show n + 12 ≤ 5826; omega⟩ (c_L_money hl hR6 hI c hcz 0 (Eq.symm (if_neg (nn hc)))) (fun E h9 q => (QI_inl q).elim) (fun v9 h9 q => ?_)
      obtain ⟨e1, qf7, hR7⟩ := QI_all q
      cases e1
      rw [lw1_0]
      refine e_if_lt (tgt := 143) dL_told_130 (by decide) (by omega) (fun c130 => by exfalso; omega) (fun c130 => ?_)
      refine e_aload_n dL_told_133 rfl rfl ?_
      refine e_iload_n dL_told_134 rfl rfl ?_
      refine e_callH (As := [zR _, zI _]) dL_told_135 hoL_money mlL_143 rfl (Nat.le_of_ble_eq_true rfl) ⟨by decide, by decide, by show k + 3 ≤ 779; omega, by show n + 18 ≤ 5826; omega⟩ (c_L_money hl hR7 hI c hcz 0 (Eq.symm (if_neg (nn hc)))) (fun E h9 q => (QI_inl q).elim) (fun v9 h9 q => ?_)
      obtain ⟨e1, qf8, hR8⟩ := QI_all q
      cases e1
      rw [lw1_0]
      refine e_bipush dL_told_138 (by decide) ?_
      refine e_icmp_le (tgt := 145) dL_told_140 (by decide) (by omega) (by omega) (fun c140 => ?_) (fun c140 => by exfalso; omega)
      refine e_iload dL_told_145 rfl ?_
      refine e_ldcI (z := -3000000) dL_told_147 ctL_70 ?_
      refine e_icmp_eq (tgt := 199) dL_told_149 (by decide) (by omega) (by omega) (fun c149 => ?_) (fun c149 => by exfalso; omega)
      refine e_iconst dL_told_199 ?_
      refine e_goto (tgt := 204) dL_told_200 (by decide) ?_
      refine e_iret dL_told_204 rfl (Or.inr rfl) (by show k + 3 ≤ 779; omega) (by show n + 18 ≤ 5826; omega) ?_
      exact ⟨rfl, hR8, FQ_tr (FQ_tr (FQ_tr hf3 qf6) qf7) qf8⟩
  have lp : ∀ (d : Nat) (p : Int) h3 (k n : Nat), p + d = 96 → 0 ≤ p → k + 4 * d + 11 ≤ 779 → n + 24 * d + 66 ≤ 5826 → RC S h3 → FQ h h3 → AW l ML_told (fun o h' => o = .inl (some (zI 1)) ∧ RC S h' ∧ FQ h h') k n 19 [zR (some 2), zI c, zI s, zI (sg (fun p => b2 (S 40 (96 * c + p) ≠ screenAt S s p)) p.toNat), zI v4, zI v5, zI p] [] h3 := by
    intro d
    induction d with
    | zero =>
      intro p h3 k n hp p0 hk hn hR3 hf3
      obtain rfl : p = 96 := by omega
      refine e_iload dL_told_19 rfl ?_
      refine e_bipush dL_told_21 (by decide) ?_
      refine e_icmp_ge (tgt := 68) dL_told_23 (by decide) (by omega) (by omega) (fun c23 => ?_) (fun c23 => by exfalso; omega)
      rw [← hcn]
      exact J68 h3 k n (by omega) (by omega) hR3 hf3
    | succ d ih =>
      intro p h3 k n hp p0 hk hn hR3 hf3
      have hg := hcol p p0 (by omega)
      have hsg := sg_in1 (f := fun p => b2 (S 40 (96 * c + p) ≠ screenAt S s p)) (fun _ _ => b2_le) p p0
      have hsgs := sg_s (f := fun p => b2 (S 40 (96 * c + p) ≠ screenAt S s p)) p0
      refine e_iload dL_told_19 rfl ?_
      refine e_bipush dL_told_21 (by decide) ?_
      refine e_icmp_ge (tgt := 68) dL_told_23 (by decide) (by omega) (by omega) (fun c23 => by exfalso; omega) (fun c23 => ?_)
      refine e_aload_n dL_told_26 rfl rfl ?_
      refine e_iload_n dL_told_27 rfl rfl ?_
      refine e_iload dL_told_28 rfl ?_
      refine e_bipush dL_told_30 (by decide) ?_
      refine e_irem dL_told_32 (by omega) (by omega) (by omega) (by omega) ?_
      refine e_iload dL_told_33 rfl ?_
      refine e_bipush dL_told_35 (by decide) ?_
      refine e_idiv dL_told_37 (by omega) (by omega) (by omega) (by omega) ?_
      refine e_callH (As := [zR _, zI _, zI _, zI _]) dL_told_38 hoL_picture mlL_136 rfl (Nat.le_of_ble_eq_true rfl) ⟨by decide, by decide, by show k + 2 ≤ 779; omega, by show n + 12 ≤ 5826; omega⟩ (c_L_picture hl hR3 hI c hcz (p % 12) (by omega) (p / 12) (by omega) 0 (Eq.symm (if_neg (nn ⟨hc, ⟨by omega, by omega⟩, by omega, by omega⟩)))) (fun E h9 q => (QI_inl q).elim) (fun v9 h9 q => ?_)
      obtain ⟨e1, qf6, hR6⟩ := QI_all q
      cases e1
      rw [lw1_0, show p / 12 * 12 + p % 12 = p by omega]
      refine e_aload_n dL_told_41 rfl rfl ?_
      refine e_iload_n dL_told_42 rfl rfl ?_
      refine e_iload dL_told_43 rfl ?_
      refine e_bipush dL_told_45 (by decide) ?_
      refine e_irem dL_told_47 (by omega) (by omega) (by omega) (by omega) ?_
      refine e_iload dL_told_48 rfl ?_
      refine e_bipush dL_told_50 (by decide) ?_
      refine e_idiv dL_told_52 (by omega) (by omega) (by omega) (by omega) ?_
      refine e_callH (As := [zR _, zI _, zI _, zI _]) dL_told_53 hoL_screen mlL_139 rfl (Nat.le_of_ble_eq_true rfl) ⟨by decide, by decide, by show k + 4 ≤ 779; omega, by show n + 24 ≤ 5826; omega⟩ (c_L_screen hl hR6 hI s hsz (p % 12) (by omega) (p / 12) (by omega) 0 (Eq.symm (if_neg (nn ⟨hsS, ⟨by omega, by omega⟩, by omega, by omega⟩)))) (fun E h9 q => (QI_inl q).elim) (fun v9 h9 q => ?_)
      obtain ⟨e1, qf7, hR7⟩ := QI_all q
      cases e1
      rw [lw1_0, show p / 12 * 12 + p % 12 = p by omega]
      refine e_icmp_eq (tgt := 62) dL_told_56 (by decide) (by omega) (by omega) (fun c56 => ?_) (fun c56 => ?_)
      · skip
        rw [show b2 (S 40 (96 * c + p) ≠ screenAt S s p) = 0 from b2_f (fun y => y c56)] at hsgs
        refine e_iinc dL_told_62 (Nat.le_of_ble_eq_true rfl) rfl rfl rfl rfl ?_
        refine e_goto (tgt := 19) dL_told_65 (by decide) ?_
        rw [show sg (fun p => b2 (S 40 (96 * c + p) ≠ screenAt S s p)) p.toNat = sg (fun p => b2 (S 40 (96 * c + p) ≠ screenAt S s p)) (p + 1).toNat by omega]
        exact ih (p + 1) _ (k + 2 + 2) (n + 12 + 12) (by omega) (by omega) (by omega) (by omega) hR7 (FQ_tr (FQ_tr hf3 qf6) qf7)
      · skip
        rw [show b2 (S 40 (96 * c + p) ≠ screenAt S s p) = 1 from b2_t c56] at hsgs
        refine e_iinc dL_told_59 (Nat.le_of_ble_eq_true rfl) rfl rfl rfl rfl ?_
        refine e_iinc dL_told_62 (Nat.le_of_ble_eq_true rfl) rfl rfl rfl rfl ?_
        refine e_goto (tgt := 19) dL_told_65 (by decide) ?_
        rw [show sg (fun p => b2 (S 40 (96 * c + p) ≠ screenAt S s p)) p.toNat + 1 = sg (fun p => b2 (S 40 (96 * c + p) ≠ screenAt S s p)) (p + 1).toNat by omega]
        exact ih (p + 1) _ (k + 2 + 2) (n + 12 + 12) (by omega) (by omega) (by omega) (by omega) hR7 (FQ_tr (FQ_tr hf3 qf6) qf7)
  refine e_wid 11 66 (by decide) (by decide) ?_
  exact lp 96 0 _ 11 66 (by omega) (by omega) (by omega) (by omega) hR5 (FQ_tr qf4 qf5)
