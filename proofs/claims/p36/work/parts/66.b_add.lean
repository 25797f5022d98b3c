set_option maxHeartbeats 4000000 in
set_option maxRecDepth 100000 in
theorem c_Jxa1e45_init_da8c8 {l : Launch} (hl : l.stackTraces = false) {h : zH} (n : Nat) : zC l MJxa1e45_init_da8c8 [zR (some n)] h (fun o h' => o = .inl none ∧ h' = h) := by
  refine zC_of hl rfl rfl (by decide) rfl rfl (Nat.le_of_ble_eq_true rfl) ?_
  refine e_aload_n dJxa1e45_init_da8c8_0 rfl rfl ?_
  refine e_objInit dJxa1e45_init_da8c8_1 mlJxa1e45_1 tw_oiI tw_oiC (by decide) (by decide) ?_
  refine e_vret dJxa1e45_init_da8c8_4 rfl (by decide) (by decide) ?_
  exact ⟨rfl, rfl⟩
set_option maxHeartbeats 4000000 in
set_option maxRecDepth 100000 in
theorem c_Jxc12de_init_da8c8 {l : Launch} (hl : l.stackTraces = false) {h : zH} (n : Nat) (k0 : zK h n = 1) : zC l MJxc12de_init_da8c8 [zR (some n)] h (fun o h' => o = .inl none ∧ h' = sf h 0 n 0) := by
  refine zC_of hl rfl rfl (by decide) rfl rfl (Nat.le_of_ble_eq_true rfl) ?_
  refine e_aload_n dJxc12de_init_da8c8_0 rfl rfl ?_
  refine e_callI (As := []) dJxc12de_init_da8c8_1 moJxa1e45_init_da8c8 miJxa1e45_init_da8c8 rfl rfl mlJxc12de_1 rfl (Nat.le_of_ble_eq_true rfl) ⟨by decide, by decide, by decide, by decide⟩ (c_Jxa1e45_init_da8c8 hl n) (fun E h1 q => by cases q.1) (fun v h9 q => ?_)
  obtain ⟨e1, e2⟩ := q; cases e1; rw [e2]; clear e2 h9
  refine e_aload_n dJxc12de_init_da8c8_4 rfl rfl ?_
  refine e_iconst dJxc12de_init_da8c8_5 ?_
  refine e_putI dJxc12de_init_da8c8_6 flJxc12de_7 (Or.inl rfl) trivial (show zK h n = 0 + 1 from k0) (by omega) ?_
  refine e_vret dJxc12de_init_da8c8_9 rfl (by decide) (by decide) ?_
  exact ⟨rfl, rfl⟩
set_option maxHeartbeats 4000000 in
set_option maxRecDepth 100000 in
theorem c_Jx4a65c_init_da8c8 {l : Launch} (hl : l.stackTraces = false) {h : zH} (n : Nat) (k0 : zK h n = 1) : zC l MJx4a65c_init_da8c8 [zR (some n)] h (fun o h' => o = .inl none ∧ h' = sr (sf h 0 n 0) 1 n (some 0)) := by
  refine zC_of hl rfl rfl (by decide) rfl rfl (Nat.le_of_ble_eq_true rfl) ?_
  refine e_aload_n dJx4a65c_init_da8c8_0 rfl rfl ?_
  refine e_callI (As := []) dJx4a65c_init_da8c8_1 moJxc12de_init_da8c8 miJxc12de_init_da8c8 rfl rfl mlJx4a65c_1 rfl (Nat.le_of_ble_eq_true rfl) ⟨by decide, by decide, by decide, by decide⟩ (c_Jxc12de_init_da8c8 hl n k0) (fun E h1 q => by cases q.1) (fun v h9 q => ?_)
  obtain ⟨e1, e2⟩ := q; cases e1; rw [e2]; clear e2 h9
  refine e_aload_n dJx4a65c_init_da8c8_4 rfl rfl ?_
  refine e_gets0 dJx4a65c_init_da8c8_5 (zTm (by decide +kernel) rfl) ?_
  refine e_putR dJx4a65c_init_da8c8_8 flJx4a65c_9 (Or.inl rfl) rfl (show zK h n = 0 + 1 from k0) ?_
  refine e_vret dJx4a65c_init_da8c8_11 rfl (by decide) (by decide) ?_
  exact ⟨rfl, rfl⟩
set_option maxHeartbeats 4000000 in
set_option maxRecDepth 100000 in
theorem c_Jx4a65c_grow_92f84 {l : Launch} (hl : l.stackTraces = false) {h : zH} {n : Nat} {cp len : Int} {q : Int → Option Nat} (hA : LA h n 0 cp len q) (a : Nat) (a1 : 1 < a) (ha : zK h a = 0) (hna : n ≠ a) : zC l MJx4a65c_grow_92f84 [zR (some n), zI 1] h (fun o h' => o = .inl (some (zR (some a))) ∧ h' = sr (nw h a 107 10) 1 n (some a)) := by
  refine zC_of hl rfl rfl (by decide) rfl rfl (Nat.le_of_ble_eq_true rfl) ?_
  obtain ⟨a1', a2, a3, a4, a5, a6⟩ := hA
  refine e_aload_n dJx4a65c_grow_92f84_0 rfl rfl ?_
  refine e_getR dJx4a65c_grow_92f84_1 flJx4a65c_9 rfl (show zK h n = 0 + 1 from a1') a2 ?_
  refine e_alen0 dJx4a65c_grow_92f84_4 ?_
  refine e_istore_n dJx4a65c_grow_92f84_5 rfl (by decide) rfl rfl ?_
  refine e_iload_n dJx4a65c_grow_92f84_6 rfl rfl ?_
  refine e_if_gt (tgt := 20) dJx4a65c_grow_92f84_7 (by decide) (by omega) (fun c7 => ?_) (fun c7 => ?_)
  · skip
    exfalso; omega
  · skip
    refine e_aload_n dJx4a65c_grow_92f84_10 rfl rfl ?_
    refine e_getR dJx4a65c_grow_92f84_11 flJx4a65c_9 rfl (show zK h n = 0 + 1 from a1') a2 ?_
    refine e_gets0 dJx4a65c_grow_92f84_14 (zTm (by decide +kernel) rfl) ?_
    refine e_acmp_eq (tgt := 45) dJx4a65c_grow_92f84_17 (by decide) (fun c17 => ?_) (fun c17 => ?_)
    · skip
      refine e_aload_n dJx4a65c_grow_92f84_45 rfl rfl ?_
      refine e_bipush dJx4a65c_grow_92f84_46 (by decide) ?_
      refine e_iload_n dJx4a65c_grow_92f84_48 rfl rfl ?_
      refine e_max dJx4a65c_grow_92f84_49 (show Cond.methodLink RJx4a65c 79 Lib.Math.max.name ∈ zT from zTm (by decide +kernel) rfl) tw_mxS tw_maI tw_mxC (Nat.le_of_ble_eq_true rfl) (by decide) (by decide) (by decide) (by decide) (by decide) (by decide) ?_
      refine e_newq a 7 10 dJx4a65c_grow_92f84_52 (by decide) (by decide) rfl (show Cond.classLink RJx4a65c 7 "java/lang/Object" ∈ zT from zTm (by decide +kernel) rfl) tw_ovO rfl (by decide) a1 ha (by decide) (by decide) ?_
      refine e_dup_x1 dJx4a65c_grow_92f84_55 rfl rfl ?_
      refine e_putR dJx4a65c_grow_92f84_56 flJx4a65c_9 (Or.inl rfl) rfl (show zK (nw h a 107 10) n = 0 + 1 from (eqAt_nw (kd := 107) (len := 10) hna).1.trans a1') ?_
      refine e_aret dJx4a65c_grow_92f84_59 rfl rfl (by decide) (by decide) ?_
      exact ⟨rfl, rfl⟩
    · skip
      exact absurd rfl c17
set_option maxHeartbeats 4000000 in
set_option maxRecDepth 100000 in
theorem c_Jx4a65c_grow_d5877 {l : Launch} (hl : l.stackTraces = false) {h : zH} {n : Nat} {cp len : Int} {q : Int → Option Nat} (hA : LA h n 0 cp len q) (h0 : len = 0) (a : Nat) (a1 : 1 < a) (ha : zK h a = 0) (hna : n ≠ a) : zC l MJx4a65c_grow_d5877 [zR (some n)] h (fun o h' => o = .inl (some (zR (some a))) ∧ LA h' n a 10 len q ∧ ∀ m, m ≠ n → m ≠ a → eqAt m h h') := by
  refine zC_of hl rfl rfl (by decide) rfl rfl (Nat.le_of_ble_eq_true rfl) ?_
  have k1 := hA.1
  have k3 := hA.2.2.1
  subst h0
  refine e_aload_n dJx4a65c_grow_d5877_0 rfl rfl ?_
  refine e_aload_n dJx4a65c_grow_d5877_1 rfl rfl ?_
  refine e_getI dJx4a65c_grow_d5877_2 flJx4a65c_48 rfl (show zK h n = 0 + 1 from k1) k3 (fun r2 => ?_)
  refine e_iconst dJx4a65c_grow_d5877_5 ?_
  refine e_iadd dJx4a65c_grow_d5877_6 ?_
  refine e_callV (As := [zI _]) (cb := 0) dJx4a65c_grow_d5877_7 moJx4a65c_grow_92f84 mvJx4a65c_grow_92f84 mlJx4a65c_69 (by decide) rfl (show zK h n = 0 + 1 from k1) rfl (Nat.le_of_ble_eq_true rfl) ⟨by decide, by decide, by decide, by decide⟩ (c_Jx4a65c_grow_92f84 hl hA a a1 ha hna) (fun E h1 q => by cases q.1) (fun v h9 q => ?_)
  obtain ⟨e1, e2⟩ := q; cases e1; rw [e2]; clear e2 h9
  refine e_aret dJx4a65c_grow_d5877_10 rfl rfl (by decide) (by decide) ?_
  exact ⟨rfl, LA_grow0 hA rfl hna a1, fun m m1 m2 => eqAt_tr (eqAt_nw m2) (eqAt_sr m1)⟩
