set_option maxHeartbeats 4000000 in
set_option maxRecDepth 100000 in
theorem c_J3_checkIndex_8e157 {l : Launch} (hl : l.stackTraces = false) {h : zH} (i n : Int) (r : Option Nat) (h0 : 0 ≤ i) (h1 : i < n) (h2 : zin n) : zC l MJ3_checkIndex_8e157 [zI i, zI n, zR r] h (fun o h' => o = .inl (some (zI i)) ∧ h' = h) := by
  refine zC_of hl rfl rfl (by decide) rfl rfl (Nat.le_of_ble_eq_true rfl) ?_
  refine e_iload_n dJ3_checkIndex_8e157_0 rfl rfl ?_
  refine e_if_lt (tgt := 9) dJ3_checkIndex_8e157_1 (by decide) (by omega) (fun c1 => ?_) (fun c1 => ?_)
  · skip
    exfalso; omega
  · skip
    refine e_iload_n dJ3_checkIndex_8e157_4 rfl rfl ?_
    refine e_iload_n dJ3_checkIndex_8e157_5 rfl rfl ?_
    refine e_icmp_lt (tgt := 16) dJ3_checkIndex_8e157_6 (by decide) (by omega) (by omega) (fun c6 => ?_) (fun c6 => ?_)
    · skip
      refine e_iload_n dJ3_checkIndex_8e157_16 rfl rfl ?_
      refine e_iret dJ3_checkIndex_8e157_17 rfl trivial (by decide) (by decide) ?_
      exact ⟨rfl, rfl⟩
    · skip
      exfalso; omega
set_option maxHeartbeats 4000000 in
set_option maxRecDepth 100000 in
theorem c_J15_checkIndex_7cf53 {l : Launch} (hl : l.stackTraces = false) {h : zH} (i n : Int) (h0 : 0 ≤ i) (h1 : i < n) (h2 : zin n) : zC l MJ15_checkIndex_7cf53 [zI i, zI n] h (fun o h' => o = .inl (some (zI i)) ∧ h' = h) := by
  refine zC_of hl rfl rfl (by decide) rfl rfl (Nat.le_of_ble_eq_true rfl) ?_
  refine e_iload_n dJ15_checkIndex_7cf53_0 rfl rfl ?_
  refine e_iload_n dJ15_checkIndex_7cf53_1 rfl rfl ?_
  refine e_null dJ15_checkIndex_7cf53_2 ?_
  refine e_callS (As := [zI _, zI _, zR _]) dJ15_checkIndex_7cf53_3 moJ3_checkIndex_8e157 msJ3_checkIndex_8e157 mlJ15_105 rfl (Nat.le_of_ble_eq_true rfl) ⟨by decide, by decide, by decide, by decide⟩ (c_J3_checkIndex_8e157 hl _ _ _ h0 h1 h2) (fun E h1 q => by cases q.1) (fun v h9 q => ?_)
  obtain ⟨e1, e2⟩ := q; cases e1; rw [e2]; clear e2 h9
  refine e_iret dJ15_checkIndex_7cf53_6 rfl trivial (by decide) (by decide) ?_
  exact ⟨rfl, rfl⟩
set_option maxHeartbeats 4000000 in
set_option maxRecDepth 100000 in
theorem c_Jx4a65c_size_8abf5 {l : Launch} (hl : l.stackTraces = false) {h : zH} {n ed : Nat} {cp len : Int} {q : Int → Option Nat} (hA : LA h n ed cp len q)  : zC l MJx4a65c_size_8abf5 [zR (some n)] h (fun o h' => o = .inl (some (zI len)) ∧ h' = h) := by
  refine zC_of hl rfl rfl (by decide) rfl rfl (Nat.le_of_ble_eq_true rfl) ?_
  obtain ⟨a1, a2, a3, a4, a5, a6⟩ := id hA
  refine e_aload_n dJx4a65c_size_8abf5_0 rfl rfl ?_
  refine e_getI dJx4a65c_size_8abf5_1 flJx4a65c_48 rfl (by assumption) (by assumption) (fun r1 => ?_)
  refine e_iret dJx4a65c_size_8abf5_4 rfl trivial (by decide) (by decide) ?_
  exact ⟨rfl, rfl⟩
set_option maxHeartbeats 4000000 in
set_option maxRecDepth 100000 in
theorem c_Jx4a65c_elementData_915e3 {l : Launch} (hl : l.stackTraces = false) {h : zH} {n ed : Nat} {cp len : Int} {q : Int → Option Nat} (hA : LA h n ed cp len q) (i : Int) (h0 : 0 ≤ i) (h1 : i < len) : zC l MJx4a65c_elementData_915e3 [zR (some n), zI i] h (fun o h' => o = .inl (some (zR (q i))) ∧ h' = h) := by
  refine zC_of hl rfl rfl (by decide) rfl rfl (Nat.le_of_ble_eq_true rfl) ?_
  obtain ⟨a1, a2, a3, a4, a5, a6⟩ := id hA
  have a7 : 0 < ed ∧ ed ≠ n ∧ zK h ed = 107 ∧ zN h ed = cp := by
    rcases a5 with z | z
    · omega
    · exact z
  refine e_aload_n dJx4a65c_elementData_915e3_0 rfl rfl ?_
  refine e_getR dJx4a65c_elementData_915e3_1 flJx4a65c_9 rfl (by assumption) (by assumption) ?_
  refine e_iload_n dJx4a65c_elementData_915e3_4 rfl rfl ?_
  refine e_aald dJx4a65c_elementData_915e3_5 (t := 7) a7.2.2.1 (by decide) (by decide) (by omega) (by omega) (a6 i h0 h1) ?_
  refine e_aret dJx4a65c_elementData_915e3_6 rfl rfl (by decide) (by decide) ?_
  exact ⟨rfl, rfl⟩
set_option maxHeartbeats 4000000 in
set_option maxRecDepth 100000 in
theorem c_Jx4a65c_get_915e3 {l : Launch} (hl : l.stackTraces = false) {h : zH} {n ed : Nat} {cp len : Int} {q : Int → Option Nat} (hA : LA h n ed cp len q) (i : Int) (h0 : 0 ≤ i) (h1 : i < len) : zC l MJx4a65c_get_915e3 [zR (some n), zI i] h (fun o h' => o = .inl (some (zR (q i))) ∧ h' = h) := by
  refine zC_of hl rfl rfl (by decide) rfl rfl (Nat.le_of_ble_eq_true rfl) ?_
  obtain ⟨a1, a2, a3, a4, a5, a6⟩ := id hA
  have a7 : 0 < ed ∧ ed ≠ n ∧ zK h ed = 107 ∧ zN h ed = cp := by
    rcases a5 with z | z
    · omega
    · exact z
  refine e_iload_n dJx4a65c_get_915e3_0 rfl rfl ?_
  refine e_aload_n dJx4a65c_get_915e3_1 rfl rfl ?_
  refine e_getI dJx4a65c_get_915e3_2 flJx4a65c_48 rfl (by assumption) (by assumption) (fun r2 => ?_)
  refine e_callS (As := [zI _, zI _]) dJx4a65c_get_915e3_5 moJ15_checkIndex_7cf53 msJ15_checkIndex_7cf53 mlJx4a65c_118 rfl (Nat.le_of_ble_eq_true rfl) ⟨by decide, by decide, by decide, by decide⟩ (c_J15_checkIndex_7cf53 hl _ _ h0 h1 (by assumption)) (fun E h1 q => by cases q.1) (fun v h9 q => ?_)
  obtain ⟨e1, e2⟩ := q; cases e1; rw [e2]; clear e2 h9
  refine e_pop dJx4a65c_get_915e3_8 rfl ?_
  refine e_aload_n dJx4a65c_get_915e3_9 rfl rfl ?_
  refine e_iload_n dJx4a65c_get_915e3_10 rfl rfl ?_
  refine e_callV (As := [zI _]) (cb := 0) dJx4a65c_get_915e3_11 moJx4a65c_elementData_915e3 mvJx4a65c_elementData_915e3 mlJx4a65c_123 (by decide) rfl a1 rfl (Nat.le_of_ble_eq_true rfl) ⟨by decide, by decide, by decide, by decide⟩ (c_Jx4a65c_elementData_915e3 hl hA _ h0 h1) (fun E h1 q => by cases q.1) (fun v h9 q => ?_)
  obtain ⟨e1, e2⟩ := q; cases e1; rw [e2]; clear e2 h9
  refine e_aret dJx4a65c_get_915e3_14 rfl rfl (by decide) (by decide) ?_
  exact ⟨rfl, rfl⟩
set_option maxHeartbeats 4000000 in
set_option maxRecDepth 100000 in
theorem c_Jx4a65c_fastRemove_b59b0 {l : Launch} (hl : l.stackTraces = false) {h : zH} {n ed : Nat} {cp len : Int} {q : Int → Option Nat} (hA : LA h n ed cp len q) (ci : Nat) (hci : ci < 10) (hw : (zCn ci, "java/lang/Object") ∈ zCa) (hq : ∀ j, 0 ≤ j → j < len → ∀ y, q j = some y → zK h y = ci + 1) (i : Int) (h0 : 0 ≤ i) (h1 : i < len) : zC l MJx4a65c_fastRemove_b59b0 [zR (some n), zR (some ed), zI i] h (fun o h' => o = .inl none ∧ LA h' n ed cp (len - 1) (fun j => if j < i then q j else q (j + 1)) ∧ ∀ m, m ≠ n → m ≠ ed → eqAt m h h') := by
  refine zC_of hl rfl rfl (by decide) rfl rfl (Nat.le_of_ble_eq_true rfl) ?_
  obtain ⟨a1, a2, a3, a4, a5, a6⟩ := id hA
  have a7 : 0 < ed ∧ ed ≠ n ∧ zK h ed = 107 ∧ zN h ed = cp := by
    rcases a5 with z | z
    · omega
    · exact z
  refine e_aload_n dJx4a65c_fastRemove_b59b0_0 rfl rfl ?_
  refine e_dup dJx4a65c_fastRemove_b59b0_1 rfl ?_
  refine e_getI dJx4a65c_fastRemove_b59b0_2 flJx4a65c_63 rfl (by assumption) rfl (fun r2 => ?_)
  refine e_iconst dJx4a65c_fastRemove_b59b0_5 ?_
  refine e_iadd dJx4a65c_fastRemove_b59b0_6 ?_
  refine e_wrap (fun mc hmc => ?_)
  refine e_putI dJx4a65c_fastRemove_b59b0_7 flJx4a65c_63 (Or.inl rfl) trivial a1 (by omega) ?_
  refine e_aload_n dJx4a65c_fastRemove_b59b0_10 rfl rfl ?_
  refine e_getI dJx4a65c_fastRemove_b59b0_11 flJx4a65c_48 rfl a1 a3 (fun r11 => ?_)
  refine e_iconst dJx4a65c_fastRemove_b59b0_14 ?_
  refine e_isub dJx4a65c_fastRemove_b59b0_15 ?_
  refine e_dup dJx4a65c_fastRemove_b59b0_16 rfl ?_
  refine e_istore_n dJx4a65c_fastRemove_b59b0_17 rfl (by decide) rfl rfl ?_
  refine e_iload_n dJx4a65c_fastRemove_b59b0_18 rfl rfl ?_
  refine e_icmp_le (tgt := 34) dJx4a65c_fastRemove_b59b0_19 (by decide) (by omega) (by omega) (fun c19 => ?_) (fun c19 => ?_)
  · skip
    refine e_aload_n dJx4a65c_fastRemove_b59b0_34 rfl rfl ?_
    refine e_aload_n dJx4a65c_fastRemove_b59b0_35 rfl rfl ?_
    refine e_iload_n dJx4a65c_fastRemove_b59b0_36 rfl rfl ?_
    refine e_dup_x1 dJx4a65c_fastRemove_b59b0_37 rfl rfl ?_
    refine e_putI dJx4a65c_fastRemove_b59b0_38 flJx4a65c_48 (Or.inl rfl) trivial a1 (by omega) ?_
    refine e_null dJx4a65c_fastRemove_b59b0_41 ?_
    refine e_aastN dJx4a65c_fastRemove_b59b0_42 (t := 7) a7.2.2.1 (by decide) (by decide) (by omega) (by show _ < zN h ed; omega) ?_
    refine e_vret dJx4a65c_fastRemove_b59b0_43 rfl (by decide) (by decide) ?_
    first
      | exact ⟨rfl, LA_rm1 hA h0 h1 (by omega), fun m m1 m2 => eqAt_tr (eqAt_sf m1) (eqAt_tr (eqAt_sf m1) (eqAt_sq m2))⟩
      | exact ⟨rfl, LA_rm2 hA h0 h1 (by omega), fun m m1 m2 => eqAt_tr (eqAt_sf m1) (eqAt_tr (eqAt_sqw m2) (eqAt_tr (eqAt_sf m1) (eqAt_sq m2)))⟩
  · skip
    refine e_aload_n dJx4a65c_fastRemove_b59b0_22 rfl rfl ?_
    refine e_iload_n dJx4a65c_fastRemove_b59b0_23 rfl rfl ?_
    refine e_iconst dJx4a65c_fastRemove_b59b0_24 ?_
    refine e_iadd dJx4a65c_fastRemove_b59b0_25 ?_
    refine e_aload_n dJx4a65c_fastRemove_b59b0_26 rfl rfl ?_
    refine e_iload_n dJx4a65c_fastRemove_b59b0_27 rfl rfl ?_
    refine e_iload_n dJx4a65c_fastRemove_b59b0_28 rfl rfl ?_
    refine e_iload_n dJx4a65c_fastRemove_b59b0_29 rfl rfl ?_
    refine e_isub dJx4a65c_fastRemove_b59b0_30 ?_
    refine e_copyq (ci := ci) dJx4a65c_fastRemove_b59b0_31 tw_al112 tw_acN tw_acS tw_acI a7.2.2.1 a7.2.2.1 hci hw (by omega) h0 (by omega) (by show _ ≤ zN h ed; omega) (by show _ ≤ zN h ed; omega) (fun j j0 j1 y hy => hq j (by omega) (by omega) y ((a6 j (by omega) (by omega)).symm.trans hy)) (Nat.le_of_ble_eq_true rfl) (by decide) (by decide) ?_
    refine e_aload_n dJx4a65c_fastRemove_b59b0_34 rfl rfl ?_
    refine e_aload_n dJx4a65c_fastRemove_b59b0_35 rfl rfl ?_
    refine e_iload_n dJx4a65c_fastRemove_b59b0_36 rfl rfl ?_
    refine e_dup_x1 dJx4a65c_fastRemove_b59b0_37 rfl rfl ?_
    refine e_putI dJx4a65c_fastRemove_b59b0_38 flJx4a65c_48 (Or.inl rfl) trivial a1 (by omega) ?_
    refine e_null dJx4a65c_fastRemove_b59b0_41 ?_
    refine e_aastN dJx4a65c_fastRemove_b59b0_42 (t := 7) a7.2.2.1 (by decide) (by decide) (by omega) (by show _ < zN h ed; omega) ?_
    refine e_vret dJx4a65c_fastRemove_b59b0_43 rfl (by decide) (by decide) ?_
    first
      | exact ⟨rfl, LA_rm1 hA h0 h1 (by omega), fun m m1 m2 => eqAt_tr (eqAt_sf m1) (eqAt_tr (eqAt_sf m1) (eqAt_sq m2))⟩
      | exact ⟨rfl, LA_rm2 hA h0 h1 (by omega), fun m m1 m2 => eqAt_tr (eqAt_sf m1) (eqAt_tr (eqAt_sqw m2) (eqAt_tr (eqAt_sf m1) (eqAt_sq m2)))⟩
set_option maxHeartbeats 4000000 in
set_option maxRecDepth 100000 in
theorem c_Jx4a65c_remove_915e3 {l : Launch} (hl : l.stackTraces = false) {h : zH} {n ed : Nat} {cp len : Int} {q : Int → Option Nat} (hA : LA h n ed cp len q) (ci : Nat) (hci : ci < 10) (hw : (zCn ci, "java/lang/Object") ∈ zCa) (hq : ∀ j, 0 ≤ j → j < len → ∀ y, q j = some y → zK h y = ci + 1) (i : Int) (h0 : 0 ≤ i) (h1 : i < len) : zC l MJx4a65c_remove_915e3 [zR (some n), zI i] h (fun o h' => o = .inl (some (zR (q i))) ∧ LA h' n ed cp (len - 1) (fun j => if j < i then q j else q (j + 1)) ∧ ∀ m, m ≠ n → m ≠ ed → eqAt m h h') := by
  refine zC_of hl rfl rfl (by decide) rfl rfl (Nat.le_of_ble_eq_true rfl) ?_
  obtain ⟨a1, a2, a3, a4, a5, a6⟩ := id hA
  have a7 : 0 < ed ∧ ed ≠ n ∧ zK h ed = 107 ∧ zN h ed = cp := by
    rcases a5 with z | z
    · omega
    · exact z
  refine e_iload_n dJx4a65c_remove_915e3_0 rfl rfl ?_
  refine e_aload_n dJx4a65c_remove_915e3_1 rfl rfl ?_
  refine e_getI dJx4a65c_remove_915e3_2 flJx4a65c_48 rfl (by assumption) (by assumption) (fun r2 => ?_)
  refine e_callS (As := [zI _, zI _]) dJx4a65c_remove_915e3_5 moJ15_checkIndex_7cf53 msJ15_checkIndex_7cf53 mlJx4a65c_118 rfl (Nat.le_of_ble_eq_true rfl) ⟨by decide, by decide, by decide, by decide⟩ (c_J15_checkIndex_7cf53 hl _ _ h0 h1 (by assumption)) (fun E h1 q => by cases q.1) (fun v h9 q => ?_)
  obtain ⟨e1, e2⟩ := q; cases e1; rw [e2]; clear e2 h9
  refine e_pop dJx4a65c_remove_915e3_8 rfl ?_
  refine e_aload_n dJx4a65c_remove_915e3_9 rfl rfl ?_
  refine e_getR dJx4a65c_remove_915e3_10 flJx4a65c_9 rfl (by assumption) (by assumption) ?_
  refine e_astore_n dJx4a65c_remove_915e3_13 rfl (by decide) rfl rfl ?_
  refine e_aload_n dJx4a65c_remove_915e3_14 rfl rfl ?_
  refine e_iload_n dJx4a65c_remove_915e3_15 rfl rfl ?_
  refine e_aald dJx4a65c_remove_915e3_16 (t := 7) a7.2.2.1 (by decide) (by decide) (by omega) (by omega) (a6 i h0 h1) ?_
  refine e_astore_n dJx4a65c_remove_915e3_17 rfl (by decide) rfl rfl ?_
  refine e_aload_n dJx4a65c_remove_915e3_18 rfl rfl ?_
  refine e_aload_n dJx4a65c_remove_915e3_19 rfl rfl ?_
  refine e_iload_n dJx4a65c_remove_915e3_20 rfl rfl ?_
  refine e_callV (As := [zR _, zI _]) (cb := 0) dJx4a65c_remove_915e3_21 moJx4a65c_fastRemove_b59b0 mvJx4a65c_fastRemove_b59b0 mlJx4a65c_144 (by decide) rfl a1 rfl (Nat.le_of_ble_eq_true rfl) ⟨by decide, by decide, by decide, by decide⟩ (c_Jx4a65c_fastRemove_b59b0 hl hA ci hci hw hq _ h0 h1) (fun E h1 q => by cases q.1) (fun v h1 q => ?_)
  obtain ⟨e1, e2, e3⟩ := q; cases e1
  refine e_aload_n dJx4a65c_remove_915e3_24 rfl rfl ?_
  refine e_aret dJx4a65c_remove_915e3_25 rfl rfl (by decide) (by decide) ?_
  exact ⟨rfl, e2, e3⟩
set_option maxHeartbeats 4000000 in
set_option maxRecDepth 100000 in
theorem c_Jx4a65c_clear_da8c8 {l : Launch} (hl : l.stackTraces = false) {h : zH} {n ed : Nat} {cp len : Int} {q : Int → Option Nat} (hA : LA h n ed cp len q)  : zC l MJx4a65c_clear_da8c8 [zR (some n)] h (fun o h' => o = .inl none ∧ LA h' n ed cp 0 q ∧ ∀ m, m ≠ n → m ≠ ed → eqAt m h h') := by
  refine zC_of hl rfl rfl (by decide) rfl rfl (Nat.le_of_ble_eq_true rfl) ?_
  obtain ⟨a1, a2, a3, a4, a5, a6⟩ := id hA
  refine e_aload_n dJx4a65c_clear_da8c8_0 rfl rfl ?_
  refine e_dup dJx4a65c_clear_da8c8_1 rfl ?_
  refine e_getI dJx4a65c_clear_da8c8_2 flJx4a65c_63 rfl (by assumption) rfl (fun r2 => ?_)
  refine e_iconst dJx4a65c_clear_da8c8_5 ?_
  refine e_iadd dJx4a65c_clear_da8c8_6 ?_
  refine e_wrap (fun mc hmc => ?_)
  refine e_putI dJx4a65c_clear_da8c8_7 flJx4a65c_63 (Or.inl rfl) trivial a1 (by omega) ?_
  refine e_aload_n dJx4a65c_clear_da8c8_10 rfl rfl ?_
  refine e_getR dJx4a65c_clear_da8c8_11 flJx4a65c_9 rfl a1 a2 ?_
  refine e_astore_n dJx4a65c_clear_da8c8_14 rfl (by decide) rfl rfl ?_
  refine e_aload_n dJx4a65c_clear_da8c8_15 rfl rfl ?_
  refine e_getI dJx4a65c_clear_da8c8_16 flJx4a65c_48 rfl a1 a3 (fun r16 => ?_)
  refine e_istore_n dJx4a65c_clear_da8c8_19 rfl (by decide) rfl rfl ?_
  refine e_aload_n dJx4a65c_clear_da8c8_20 rfl rfl ?_
  refine e_iconst dJx4a65c_clear_da8c8_21 ?_
  refine e_dup_x1 dJx4a65c_clear_da8c8_22 rfl rfl ?_
  refine e_putI dJx4a65c_clear_da8c8_23 flJx4a65c_48 (Or.inl rfl) trivial a1 (by omega) ?_
  refine e_istore_n dJx4a65c_clear_da8c8_26 rfl (by decide) rfl rfl ?_
  have lp27 : ∀ (d : Nat) (j : Int) (h1 : zH), (len - j).toNat < d → 0 ≤ j → j ≤ len → LA h1 n ed cp 0 q → (∀ m, m ≠ n → m ≠ ed → eqAt m h h1) → AW l MJx4a65c_clear_da8c8 (fun o h' => o = .inl none ∧ LA h' n ed cp 0 q ∧ ∀ m, m ≠ n → m ≠ ed → eqAt m h h') 0 0 27 [zR (some n), zR (some ed), zI len, zI j] [] h1 := by
    intro d
    induction d with
    | zero => intro j h1 hd j0 j1 hB hF; exact absurd hd (by omega)
    | succ d ih =>
      have ih27 := ih
      intro j h1 hd j0 j1 hB hF
      obtain ⟨b1, b2, b3, b4, b5, b6⟩ := id hB
      refine e_iload_n dJx4a65c_clear_da8c8_27 rfl rfl ?_
      refine e_iload_n dJx4a65c_clear_da8c8_28 rfl rfl ?_
      refine e_icmp_ge (tgt := 42) dJx4a65c_clear_da8c8_29 (by decide) (by omega) (by omega) (fun c29 => ?_) (fun c29 => ?_)
      · skip
        refine e_vret dJx4a65c_clear_da8c8_42 rfl (by decide) (by decide) ?_
        exact ⟨rfl, hB, hF⟩
      · skip
        refine e_aload_n dJx4a65c_clear_da8c8_32 rfl rfl ?_
        refine e_iload_n dJx4a65c_clear_da8c8_33 rfl rfl ?_
        refine e_null dJx4a65c_clear_da8c8_34 ?_
        refine e_aastN dJx4a65c_clear_da8c8_35 (t := 7) (by rcases b5 with z | z <;> omega) (by decide) (by decide) (by omega) (by rcases b5 with z | z <;> omega) ?_
        refine e_iinc dJx4a65c_clear_da8c8_36 (by decide) rfl rfl rfl rfl ?_
        refine e_goto (tgt := 27) dJx4a65c_clear_da8c8_39 (by decide) ?_
        exact ih27 _ _ (by omega) (by omega) (by omega) ⟨b1, b2, b3, b4, b5, fun i i0 i1 => by omega⟩ (fun m m1 m2 => eqAt_tr (hF m m1 m2) (eqAt_sq m2))
  exact lp27 (len.toNat + 1) 0 _ (by omega) (by omega) (by omega) ⟨a1, a2, z2_eq, ⟨Int.le_refl 0, by omega⟩, a5, fun i i0 i1 => by omega⟩ (fun m m1 m2 => eqAt_tr (eqAt_sf m1) (eqAt_sf m1))
