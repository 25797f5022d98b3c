set_option maxHeartbeats 4000000 in
set_option maxRecDepth 100000 in
theorem c_X7_init {l : Launch} (hl : l.stackTraces = false) {S : S9} {h : zH} {w : Int} (k1 : zK h (nW w) = 9) (k2 : zK h (nW w + 1) = 0) (f7 : zf h 807 (nW w) = 0) (f8 : zf h 808 (nW w) = 0) (f9 : zf h 809 (nW w) = 0) (hW : IW1 S w) (g9 : S 9 w = 0) (g10 : S 10 w = 1) (g11 : S 11 w = 1) (g12 : S 12 w = 0) (g13 : S 13 w = 0) (g14 : ∀ k, 0 ≤ k → k < S 7 w * S 8 w → S 14 (96 * w + k) = 0)  : zC l MX7_init [zR (some (nW w)), zI (S 5 w), zI (S 6 w), zI (S 7 w), zI (S 8 w)] h (fun o h' => o = .inl none ∧ RW S h' w ∧ ∀ m, m ≠ nW w → m ≠ nW w + 1 → eqAt m h h') := by
  refine zC_of hl rfl rfl (by decide) rfl rfl (Nat.le_of_ble_eq_true rfl) ?_
  obtain ⟨w1, w2, w3, w4, w5, w6, w7, w8, w9, w10⟩ := id hW
  have wa := area_le w5 w6 w7 w8
  have hne : nW w + 1 ≠ nW w := by omega
  have hne2 : nW w ≠ nW w + 1 := by omega
  have kn : ∀ H : zH, zK H (nW w) = 9 → zK (nw H (nW w + 1) (100 + 0) (S 7 w * S 8 w)) (nW w) = 9 := fun H hh => (if_neg hne2).trans hh
  refine e_aload_n dX7_init_0 rfl rfl ?_
  refine e_objInit dX7_init_1 mlX7_3 tw_oiI tw_oiC (by decide) (by decide) ?_
  refine e_aload_n dX7_init_4 rfl rfl ?_
  refine e_iload_n dX7_init_5 rfl rfl ?_
  refine e_putI dX7_init_6 flX7_9 (Or.inl rfl) trivial (show zK _ (nW w) = 8 + 1 from k1) (by omega) ?_
  refine e_aload_n dX7_init_9 rfl rfl ?_
  refine e_iload_n dX7_init_10 rfl rfl ?_
  refine e_putI dX7_init_11 flX7_15 (Or.inl rfl) trivial (show zK _ (nW w) = 8 + 1 from k1) (by omega) ?_
  refine e_aload_n dX7_init_14 rfl rfl ?_
  refine e_iload_n dX7_init_15 rfl rfl ?_
  refine e_putI dX7_init_16 flX7_18 (Or.inr ⟨rfl, rfl, rfl⟩) trivial (show zK _ (nW w) = 8 + 1 from k1) (by omega) ?_
  refine e_aload_n dX7_init_19 rfl rfl ?_
  refine e_iload dX7_init_20 rfl ?_
  refine e_putI dX7_init_22 flX7_21 (Or.inr ⟨rfl, rfl, rfl⟩) trivial (show zK _ (nW w) = 8 + 1 from k1) (by omega) ?_
  refine e_aload_n dX7_init_25 rfl rfl ?_
  refine e_iload_n dX7_init_26 rfl rfl ?_
  refine e_iload dX7_init_27 rfl ?_
  refine e_imul dX7_init_29 ?_
  refine e_newa (nW w + 1) 0 (S 7 w * S 8 w).toNat dX7_init_30 (by decide) rfl tw_arrInt (by omega) (by omega) (by unfold nW; omega) k2 (by decide) (by have e : (zMr MX7_init).slots = 96 := rfl; rw [e]; omega) ?_
  refine e_putR dX7_init_32 flX7_24 (Or.inr ⟨rfl, rfl, rfl⟩) rfl (show zK _ (nW w) = 8 + 1 from (kn _ k1)) ?_
  refine e_aload_n dX7_init_35 rfl rfl ?_
  refine e_iconst dX7_init_36 ?_
  refine e_putI dX7_init_37 flX7_28 (Or.inl rfl) (by first | exact Or.inl rfl | exact Or.inr rfl | assumption) (show zK _ (nW w) = 8 + 1 from (kn _ k1)) (by omega) ?_
  refine e_aload_n dX7_init_40 rfl rfl ?_
  refine e_iconst dX7_init_41 ?_
  refine e_putI dX7_init_42 flX7_32 (Or.inl rfl) (by first | exact Or.inl rfl | exact Or.inr rfl | assumption) (show zK _ (nW w) = 8 + 1 from (kn _ k1)) (by omega) ?_
  refine e_vret dX7_init_45 rfl (by decide) (by have e : (zMr MX7_init).slots = 96 := rfl; rw [e]; omega) ?_
  refine ⟨rfl, ?_, fun m m1 m2 => ?_⟩
  · refine ⟨?_, ?_, ?_, ?_, ?_, ?_, ?_, ?_, ?_, ?_, ?_, ?_, ?_, fun k k0 k9 => ?_⟩
    all_goals simp [s_ff, s_fr, s_fn, s_rf, s_rr, s_rn, s_Kf, s_Kr, s_Kn, s_Nf, s_Nr, s_Nn, s_af, s_ar, s_an, k1, f7, f8, f9, g9, g10, g11, g12, g13]
    rw [g14 k k0 k9]
  · exact eqAt_tr (eqAt_sf m1) (eqAt_tr (eqAt_sf m1) (eqAt_tr (eqAt_sf m1) (eqAt_tr (eqAt_sf m1) (eqAt_tr (eqAt_nw m2) (eqAt_tr (eqAt_sr m1) (eqAt_tr (eqAt_sf m1) (eqAt_sf m1)))))))
