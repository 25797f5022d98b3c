set_option maxHeartbeats 4000000 in
set_option maxRecDepth 100000 in
theorem c_X0_consider {l : Launch} (hl : l.stackTraces = false) {h : zH} (n : Nat) (k0 : zK h n = 2) (co ga t g k a b e : Int) (f5 : zf h 105 n = co) (f6 : zf h 106 n = ga) (ht : 0 ≤ t ∧ t ≤ 65535) (hg : zin g) (hk : zin k) (ha : zin a) (hb : zin b) (he : zin e) (hp1 : zin (g * co)) (hp2 : zin (ga * k))  : zC l MX0_consider [zR (some n), zI t, zI g, zI k, zI a, zI b, zI e] h (fun o h' => o = .inl none ∧ h' = if ga * k < g * co then sf (sf (sf (sf (sf (sf h 104 n t) 106 n g) 105 n k) 108 n a) 109 n b) 110 n e else h) := by
  refine zC_of hl rfl rfl (by decide) rfl rfl (Nat.le_of_ble_eq_true rfl) ?_
  refine e_iload_n dX0_consider_0 rfl rfl ?_
  refine e_aload_n dX0_consider_1 rfl rfl ?_
  refine e_getI dX0_consider_2 flX0_32 rfl (show zK h n = 1 + 1 from k0) f5 (fun r2 => ?_)
  refine e_imul dX0_consider_5 ?_
  refine e_aload_n dX0_consider_6 rfl rfl ?_
  refine e_getI dX0_consider_7 flX0_28 rfl (show zK h n = 1 + 1 from k0) f6 (fun r7 => ?_)
  refine e_iload_n dX0_consider_10 rfl rfl ?_
  refine e_imul dX0_consider_11 ?_
  refine e_icmp_le (tgt := 48) dX0_consider_12 (by decide) (by omega) (by omega) (fun c12 => ?_) (fun c12 => ?_)
  · skip
    refine e_vret dX0_consider_48 rfl (by decide) (by decide) ?_
    first
      | exact ⟨rfl, (if_pos (by omega)).symm⟩
      | exact ⟨rfl, (if_neg (by omega)).symm⟩
  · skip
    refine e_aload_n dX0_consider_15 rfl rfl ?_
    refine e_iload_n dX0_consider_16 rfl rfl ?_
    refine e_putI dX0_consider_17 flX0_24 (Or.inl rfl) (by first | exact ht | exact ⟨by omega, by omega⟩) (show zK h n = 1 + 1 from k0) (by omega) ?_
    refine e_aload_n dX0_consider_20 rfl rfl ?_
    refine e_iload_n dX0_consider_21 rfl rfl ?_
    refine e_putI dX0_consider_22 flX0_28 (Or.inl rfl) trivial (show zK h n = 1 + 1 from k0) (by omega) ?_
    refine e_aload_n dX0_consider_25 rfl rfl ?_
    refine e_iload_n dX0_consider_26 rfl rfl ?_
    refine e_putI dX0_consider_27 flX0_32 (Or.inl rfl) trivial (show zK h n = 1 + 1 from k0) (by omega) ?_
    refine e_aload_n dX0_consider_30 rfl rfl ?_
    refine e_iload dX0_consider_31 rfl ?_
    refine e_putI dX0_consider_33 flX0_74 (Or.inl rfl) trivial (show zK h n = 1 + 1 from k0) (by omega) ?_
    refine e_aload_n dX0_consider_36 rfl rfl ?_
    refine e_iload dX0_consider_37 rfl ?_
    refine e_putI dX0_consider_39 flX0_77 (Or.inl rfl) trivial (show zK h n = 1 + 1 from k0) (by omega) ?_
    refine e_aload_n dX0_consider_42 rfl rfl ?_
    refine e_iload dX0_consider_43 rfl ?_
    refine e_putI dX0_consider_45 flX0_80 (Or.inl rfl) trivial (show zK h n = 1 + 1 from k0) (by omega) ?_
    refine e_vret dX0_consider_48 rfl (by decide) (by decide) ?_
    first
      | exact ⟨rfl, (if_pos (by omega)).symm⟩
      | exact ⟨rfl, (if_neg (by omega)).symm⟩
