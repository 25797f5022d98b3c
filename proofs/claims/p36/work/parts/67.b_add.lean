set_option maxHeartbeats 4000000 in
set_option maxRecDepth 100000 in
theorem c_Jx4a65c_add_72be8 {l : Launch} (hl : l.stackTraces = false) {h : zH} {n ed ed' : Nat} {cp len cp' : Int} {q : Int → Option Nat} (hA : LA h n ed cp len q) (hG : GW l h n ed cp len q ed' cp') (hz : len < cp') (hz2 : cp' ≤ 1000) (hz3 : cp ≤ 1000) (b ci : Nat) (hci : ci < 10) (hw : (zCn ci, "java/lang/Object") ∈ zCa) (hb : zK h b = ci + 1) (hbn : b ≠ n) (hbe : b ≠ ed')  : zC l MJx4a65c_add_72be8 [zR (some n), zR (some b), zR (some ed), zI len] h (fun o h' => o = .inl none ∧ LA h' n ed' cp' (len + 1) (fun j => if j = len then some b else q j) ∧ ∀ m, m ≠ n → m ≠ ed' → eqAt m h h') := by
  refine zC_of hl rfl rfl (by decide) rfl rfl (Nat.le_of_ble_eq_true rfl) ?_
  have k1 := hA.1
  have k4 := hA.2.2.2.1
  refine e_iload_n dJx4a65c_add_72be8_0 rfl rfl ?_
  refine e_aload_n dJx4a65c_add_72be8_1 rfl rfl ?_
  refine e_lalen hA dJx4a65c_add_72be8_2 ?_
  refine e_icmp_ne (tgt := 11) dJx4a65c_add_72be8_3 (by decide) (by omega) (by omega) (fun c3 => ?_) (fun c3 => ?_)
  · skip
    obtain ⟨g1, g2, g3⟩ := hG.resolve_right (fun z => c3 z.1)
    subst g2
    subst g3
    have hA8 := hA
    have hF8 : ∀ m, m ≠ n → m ≠ ed' → eqAt m h h := fun m _ _ => eqAt_rf
    refine e_aload_n dJx4a65c_add_72be8_11 rfl rfl ?_
    refine e_iload_n dJx4a65c_add_72be8_12 rfl rfl ?_
    refine e_aload_n dJx4a65c_add_72be8_13 rfl rfl ?_
    have a7 := hA8.2.2.2.1
    have a8 := hA8.2.2.2.2.1.resolve_left (fun z => by omega)
    refine e_aastO dJx4a65c_add_72be8_14 a8.2.2.1 (by omega) (by rw [a8.2.2.2]; omega) ((hF8 b hbn hbe).1.trans hb) hci hw ?_
    have k8 := hA8.1
    refine e_aload_n dJx4a65c_add_72be8_15 rfl rfl ?_
    refine e_iload_n dJx4a65c_add_72be8_16 rfl rfl ?_
    refine e_iconst dJx4a65c_add_72be8_17 ?_
    refine e_iadd dJx4a65c_add_72be8_18 ?_
    refine e_putI dJx4a65c_add_72be8_19 flJx4a65c_48 (Or.inl rfl) trivial k8 (by omega) ?_
    refine e_vret dJx4a65c_add_72be8_22 rfl (by decide) (by decide) ?_
    exact ⟨rfl, LA_add hA8 hz, fun m m1 m2 => eqAt_tr (hF8 m m1 m2) (eqAt_tr (eqAt_sq m2) (eqAt_sf m1))⟩
  · skip
    have g := (hG.resolve_left (fun z => by have := z.1; omega)).2 h hA (fun m _ => eqAt_rf)
    refine e_aload_n dJx4a65c_add_72be8_6 rfl rfl ?_
    refine e_callV (As := []) (cb := 0) dJx4a65c_add_72be8_7 moJx4a65c_grow_d5877 mvJx4a65c_grow_d5877 mlJx4a65c_129 (by decide) rfl (show zK h n = 0 + 1 from k1) rfl (Nat.le_of_ble_eq_true rfl) ⟨by decide, by decide, by decide, by decide⟩ g (fun E h1 q => by cases q.1) (fun v h1 q => ?_)
    obtain ⟨e1, hA8, hF8⟩ := q; cases e1
    refine e_astore_n dJx4a65c_add_72be8_10 rfl (by decide) rfl rfl ?_
    refine e_aload_n dJx4a65c_add_72be8_11 rfl rfl ?_
    refine e_iload_n dJx4a65c_add_72be8_12 rfl rfl ?_
    refine e_aload_n dJx4a65c_add_72be8_13 rfl rfl ?_
    have a7 := hA8.2.2.2.1
    have a8 := hA8.2.2.2.2.1.resolve_left (fun z => by omega)
    refine e_aastO dJx4a65c_add_72be8_14 a8.2.2.1 (by omega) (by rw [a8.2.2.2]; omega) ((hF8 b hbn hbe).1.trans hb) hci hw ?_
    have k8 := hA8.1
    refine e_aload_n dJx4a65c_add_72be8_15 rfl rfl ?_
    refine e_iload_n dJx4a65c_add_72be8_16 rfl rfl ?_
    refine e_iconst dJx4a65c_add_72be8_17 ?_
    refine e_iadd dJx4a65c_add_72be8_18 ?_
    refine e_putI dJx4a65c_add_72be8_19 flJx4a65c_48 (Or.inl rfl) trivial k8 (by omega) ?_
    refine e_vret dJx4a65c_add_72be8_22 rfl (by decide) (by decide) ?_
    exact ⟨rfl, LA_add hA8 hz, fun m m1 m2 => eqAt_tr (hF8 m m1 m2) (eqAt_tr (eqAt_sq m2) (eqAt_sf m1))⟩
set_option maxHeartbeats 4000000 in
set_option maxRecDepth 100000 in
theorem c_Jx4a65c_add_9ea2d {l : Launch} (hl : l.stackTraces = false) {h : zH} {n ed ed' : Nat} {cp len cp' : Int} {q : Int → Option Nat} (hA : LA h n ed cp len q) (hG : GW l h n ed cp len q ed' cp') (hz : len < cp') (hz2 : cp' ≤ 1000) (hz3 : cp ≤ 1000) (b ci : Nat) (hci : ci < 10) (hw : (zCn ci, "java/lang/Object") ∈ zCa) (hb : zK h b = ci + 1) (hbn : b ≠ n) (hbe : b ≠ ed')  : zC l MJx4a65c_add_9ea2d [zR (some n), zR (some b)] h (fun o h' => o = .inl (some (zI 1)) ∧ LA h' n ed' cp' (len + 1) (fun j => if j = len then some b else q j) ∧ ∀ m, m ≠ n → m ≠ ed' → eqAt m h h') := by
  refine zC_of hl rfl rfl (by decide) rfl rfl (Nat.le_of_ble_eq_true rfl) ?_
  obtain ⟨a1, a2, a3, a4, a5, a6⟩ := id hA
  refine e_aload_n dJx4a65c_add_9ea2d_0 rfl rfl ?_
  refine e_dup dJx4a65c_add_9ea2d_1 rfl ?_
  refine e_getI dJx4a65c_add_9ea2d_2 flJx4a65c_63 rfl (by assumption) rfl (fun r2 => ?_)
  refine e_iconst dJx4a65c_add_9ea2d_5 ?_
  refine e_iadd dJx4a65c_add_9ea2d_6 ?_
  refine e_wrap (fun mc hmc => ?_)
  refine e_putI dJx4a65c_add_9ea2d_7 flJx4a65c_63 (Or.inl rfl) trivial a1 (by omega) ?_
  have hA2 : LA (sf h 0 n mc) n ed cp len q := LA_mc hA
  obtain ⟨b1, b2, b3, b4, b5, b6⟩ := id hA2
  refine e_aload_n dJx4a65c_add_9ea2d_10 rfl rfl ?_
  refine e_aload_n dJx4a65c_add_9ea2d_11 rfl rfl ?_
  refine e_aload_n dJx4a65c_add_9ea2d_12 rfl rfl ?_
  refine e_getR dJx4a65c_add_9ea2d_13 flJx4a65c_9 rfl b1 b2 ?_
  refine e_aload_n dJx4a65c_add_9ea2d_16 rfl rfl ?_
  refine e_getI dJx4a65c_add_9ea2d_17 flJx4a65c_48 rfl b1 b3 (fun r17 => ?_)
  refine e_callV (As := [zR _, zR _, zI _]) (cb := 0) dJx4a65c_add_9ea2d_20 moJx4a65c_add_72be8 mvJx4a65c_add_72be8 mlJx4a65c_131 (by decide) rfl b1 rfl (Nat.le_of_ble_eq_true rfl) ⟨by decide, by decide, by decide, by decide⟩ (c_Jx4a65c_add_72be8 hl hA2 (GW_at (fun m hm => eqAt_sf hm) hG) hz hz2 hz3 b ci hci hw hb hbn hbe) (fun E h1 q => by cases q.1) (fun v h1 q => ?_)
  obtain ⟨e1, hA8, hF8⟩ := q; cases e1
  refine e_iconst dJx4a65c_add_9ea2d_23 ?_
  refine e_iret dJx4a65c_add_9ea2d_24 rfl (by first | exact Or.inl rfl | exact Or.inr rfl | assumption | exact b2_01) (by decide) (by decide) ?_
  exact ⟨rfl, hA8, fun m m1 m2 => eqAt_tr (eqAt_sf m1) (hF8 m m1 m2)⟩
