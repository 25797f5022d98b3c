set_option maxHeartbeats 4000000 in
set_option maxRecDepth 100000 in
theorem c_X2_init {l : Launch} (hl : l.stackTraces = false) {h : zH} (n : Nat) (k0 : zK h n = 4)  : zC l MX2_init [zR (some n)] h (fun o h' => o = .inl none ∧ h' = sf h 300 n (-1)) := by
  refine zC_of hl rfl rfl (by decide) rfl rfl (Nat.le_of_ble_eq_true rfl) ?_
  refine e_aload_n dX2_init_0 rfl rfl ?_
  refine e_objInit dX2_init_1 mlX2_3 tw_oiI tw_oiC (by decide) (by decide) ?_
  refine e_aload_n dX2_init_4 rfl rfl ?_
  refine e_iconst dX2_init_5 ?_
  refine e_putI dX2_init_6 flX2_9 (Or.inl rfl) trivial (show zK h n = 3 + 1 from k0) (by omega) ?_
  refine e_vret dX2_init_9 rfl (by decide) (by decide) ?_
  exact ⟨rfl, rfl⟩
set_option maxHeartbeats 4000000 in
set_option maxRecDepth 100000 in
theorem c_X2_hold {l : Launch} (hl : l.stackTraces = false) {h : zH} (n : Nat) (k0 : zK h n = 4) (a b c : Int) (ha : zin a) (hb : zin b) (hc : zin c)  : zC l MX2_hold [zR (some n), zI a, zI b, zI c] h (fun o h' => o = .inl none ∧ h' = sf (sf (sf h 300 n a) 301 n b) 302 n c) := by
  refine zC_of hl rfl rfl (by decide) rfl rfl (Nat.le_of_ble_eq_true rfl) ?_
  refine e_aload_n dX2_hold_0 rfl rfl ?_
  refine e_iload_n dX2_hold_1 rfl rfl ?_
  refine e_putI dX2_hold_2 flX2_9 (Or.inl rfl) trivial (show zK h n = 3 + 1 from k0) (by omega) ?_
  refine e_aload_n dX2_hold_5 rfl rfl ?_
  refine e_iload_n dX2_hold_6 rfl rfl ?_
  refine e_putI dX2_hold_7 flX2_15 (Or.inl rfl) trivial (show zK h n = 3 + 1 from k0) (by omega) ?_
  refine e_aload_n dX2_hold_10 rfl rfl ?_
  refine e_iload_n dX2_hold_11 rfl rfl ?_
  refine e_putI dX2_hold_12 flX2_18 (Or.inl rfl) trivial (show zK h n = 3 + 1 from k0) (by omega) ?_
  refine e_vret dX2_hold_15 rfl (by decide) (by decide) ?_
  exact ⟨rfl, rfl⟩
set_option maxHeartbeats 4000000 in
set_option maxRecDepth 100000 in
theorem c_X3_init {l : Launch} (hl : l.stackTraces = false) {h : zH} (n c w : Nat) (k0 : zK h n = 5) (a b : Int) (ha : zin a) (hb : zin b)  : zC l MX3_init [zR (some n), zR (some c), zR (some w), zI a, zI b] h (fun o h' => o = .inl none ∧ h' = sf (sf (sr (sr h 400 n (some c)) 401 n (some w)) 402 n a) 403 n b) := by
  refine zC_of hl rfl rfl (by decide) rfl rfl (Nat.le_of_ble_eq_true rfl) ?_
  refine e_aload_n dX3_init_0 rfl rfl ?_
  refine e_objInit dX3_init_1 mlX3_1 tw_oiI tw_oiC (by decide) (by decide) ?_
  refine e_aload_n dX3_init_4 rfl rfl ?_
  refine e_aload_n dX3_init_5 rfl rfl ?_
  refine e_putR dX3_init_6 flX3_7 (Or.inr ⟨rfl, rfl, rfl⟩) rfl (show zK h n = 4 + 1 from k0) ?_
  refine e_aload_n dX3_init_9 rfl rfl ?_
  refine e_aload_n dX3_init_10 rfl rfl ?_
  refine e_putR dX3_init_11 flX3_13 (Or.inr ⟨rfl, rfl, rfl⟩) rfl (show zK h n = 4 + 1 from k0) ?_
  refine e_aload_n dX3_init_14 rfl rfl ?_
  refine e_iload_n dX3_init_15 rfl rfl ?_
  refine e_putI dX3_init_16 flX3_17 (Or.inr ⟨rfl, rfl, rfl⟩) trivial (show zK h n = 4 + 1 from k0) (by omega) ?_
  refine e_aload_n dX3_init_19 rfl rfl ?_
  refine e_iload dX3_init_20 rfl ?_
  refine e_putI dX3_init_22 flX3_21 (Or.inr ⟨rfl, rfl, rfl⟩) trivial (show zK h n = 4 + 1 from k0) (by omega) ?_
  refine e_vret dX3_init_25 rfl (by decide) (by decide) ?_
  exact ⟨rfl, rfl⟩
set_option maxHeartbeats 4000000 in
set_option maxRecDepth 100000 in
theorem c_X6_init {l : Launch} (hl : l.stackTraces = false) {h : zH} (s : Int) (k0 : zK h (nS s + 6) = 8) (k7 : zK h (nS s + 7) = 0) (k8 : zK h (nS s + 8) = 0)  : zC l MX6_init [zR (some (nS s + 6))] h (fun o h' => o = .inl none ∧ h' = sr (nw (sr (nw h (nS s + 7) 100 96) 700 (nS s + 6) (some (nS s + 7))) (nS s + 8) 101 8) 701 (nS s + 6) (some (nS s + 8))) := by
  refine zC_of hl rfl rfl (by decide) rfl rfl (Nat.le_of_ble_eq_true rfl) ?_
  have kn : ∀ (H : zH) (a k : Nat) (len : Int), nS s + 6 ≠ a → zK H (nS s + 6) = 8 → zK (nw H a k len) (nS s + 6) = 8 := fun H a k len z e => (if_neg z).trans e
  have kp : zK (nw h (nS s + 7) 100 96) (nS s + 8) = 0 := (if_neg (by omega)).trans k8
  refine e_aload_n dX6_init_0 rfl rfl ?_
  refine e_objInit dX6_init_1 mlX6_3 tw_oiI tw_oiC (by decide) (by decide) ?_
  refine e_aload_n dX6_init_4 rfl rfl ?_
  refine e_bipush dX6_init_5 (by decide) ?_
  refine e_newa (nS s + 7) 0 96 dX6_init_7 (by decide) rfl tw_arrInt rfl (by decide) (by unfold nS; omega) k7 (by decide) (by decide) ?_
  refine e_putR dX6_init_9 flX6_9 (Or.inr ⟨rfl, rfl, rfl⟩) rfl (show zK _ (nS s + 6) = 7 + 1 from kn _ _ _ _ (by omega) k0) ?_
  refine e_aload_n dX6_init_12 rfl rfl ?_
  refine e_bipush dX6_init_13 (by decide) ?_
  refine e_newa (nS s + 8) 1 8 dX6_init_15 (by decide) rfl tw_arrBool rfl (by decide) (by unfold nS; omega) kp (by decide) (by decide) ?_
  refine e_putR dX6_init_17 flX6_15 (Or.inr ⟨rfl, rfl, rfl⟩) rfl (show zK _ (nS s + 6) = 7 + 1 from kn (sr (nw h (nS s + 7) 100 96) 700 (nS s + 6) (some (nS s + 7))) (nS s + 8) 101 8 (by omega) (kn h (nS s + 7) 100 96 (by omega) k0)) ?_
  refine e_vret dX6_init_20 rfl (by decide) (by decide) ?_
  exact ⟨rfl, rfl⟩
