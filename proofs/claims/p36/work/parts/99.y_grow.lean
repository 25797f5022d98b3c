theorem eqAt_cq {h : zH} {e a N m : Nat} {cp : Int} (hm : m ≠ a) : eqAt m h (cqH h e a N cp) := eqAt_tr (eqAt_nw hm) (eqAt_sqw hm)
set_option maxHeartbeats 4000000 in
set_option maxRecDepth 100000 in
theorem c_grow2 {l : Launch} (hl : l.stackTraces = false) (hMi : MiOK) {h : zH} {n ed a N : Nat} {cp len : Int} {q : Int → Option Nat} (hA : LA h n ed cp len q) (hed : ed ≠ 0) (hlc : len = cp) (hc : (cp = 10 ∧ N = 15) ∨ (cp = 15 ∧ N = 22)) (a1 : 1 < a) (ha : zK h a = 0) (hna : n ≠ a) (hel : ∀ i, 0 ≤ i → i < cp → ∀ y, q i = some y → zK h y = 5) : zC l MJx4a65c_grow_92f84 [zR (some n), zI (len + 1)] h (fun o h' => o = .inl (some (zR (some a))) ∧ h' = sr (cqH h ed a N cp) 1 n (some a)) := by
  refine zC_of hl rfl rfl (by decide) rfl rfl (Nat.le_of_ble_eq_true rfl) ?_
  obtain ⟨k1, k2, k3, k4, k5, k6⟩ := id hA
  obtain ⟨k50, k51, k52, k53⟩ := k5.resolve_left (fun z => hed z.1)
  have hel2 : ∀ i, 0 ≤ i → i < cp → ∀ y, zq h ed i = some y → zK h y = 5 := fun i i0 i1 y hy => hel i i0 i1 y ((k6 i i0 (by omega)).symm.trans hy)
  have hw : ∃ w : Int, Int32.ofInt cp >>> (Int32.ofInt 1 &&& 31) = Int32.ofInt w ∧ cp + (if len + 1 - cp < w then w else len + 1 - cp) = N ∧ 0 ≤ w ∧ w ≤ 1000 := by
    rcases hc with ⟨c1, c2⟩ | ⟨c1, c2⟩
    · exact ⟨5, by rw [c1]; decide, by rw [hlc, c1, c2]; decide, by decide, by decide⟩
    · exact ⟨7, by rw [c1]; decide, by rw [hlc, c1, c2]; decide, by decide, by decide⟩
  obtain ⟨w, w1, w2, w3, w4⟩ := hw
  refine e_aload_n dJx4a65c_grow_92f84_0 rfl rfl ?_
  refine e_getR dJx4a65c_grow_92f84_1 flJx4a65c_9 rfl (show zK h n = 0 + 1 from k1) k2 ?_
  refine e_alen dJx4a65c_grow_92f84_4 (show zK h ed = 100 + 7 from k52) k53 ?_
  refine e_istore_n dJx4a65c_grow_92f84_5 rfl (by decide) rfl rfl ?_
  refine e_iload_n dJx4a65c_grow_92f84_6 rfl rfl ?_
  refine e_if_gt (tgt := 20) dJx4a65c_grow_92f84_7 (by decide) (by omega) (fun y => ?_) (fun y => by exfalso; omega)
  refine e_iload_n dJx4a65c_grow_92f84_20 rfl rfl ?_
  refine e_iload_n dJx4a65c_grow_92f84_21 rfl rfl ?_
  refine e_iload_n dJx4a65c_grow_92f84_22 rfl rfl ?_
  refine e_isub dJx4a65c_grow_92f84_23 ?_
  refine e_iload_n dJx4a65c_grow_92f84_24 rfl rfl ?_
  refine e_iconst dJx4a65c_grow_92f84_25 ?_
  refine e_ishr dJx4a65c_grow_92f84_26 w1 ?_
  refine e_callS (As := [zI _, zI _, zI _]) dJx4a65c_grow_92f84_27 moG_n msG_n mlJx4a65c_73 rfl (Nat.le_of_ble_eq_true rfl) ⟨by decide, by decide, by decide, by decide⟩ (c_newLength hl (w := (N : Int)) (by omega) (by omega) (by omega) w2 (by omega)) (fun E h1 q => by cases q.1) (fun v h9 q => ?_)
  obtain ⟨e1, e2⟩ := q
  cases e1
  rw [e2]
  clear e2 h9
  refine e_istore_n dJx4a65c_grow_92f84_30 rfl (by decide) rfl rfl ?_
  refine e_aload_n dJx4a65c_grow_92f84_31 rfl rfl ?_
  refine e_aload_n dJx4a65c_grow_92f84_32 rfl rfl ?_
  refine e_getR dJx4a65c_grow_92f84_33 flJx4a65c_9 rfl (show zK h n = 0 + 1 from k1) k2 ?_
  refine e_iload_n dJx4a65c_grow_92f84_36 rfl rfl ?_
  refine e_callS (As := [zR _, zI _]) dJx4a65c_grow_92f84_37 moG_1 msG_1 mlJx4a65c_66 rfl (Nat.le_of_ble_eq_true rfl) ⟨by decide, by decide, by decide, by decide⟩ (c_copy1 hl hMi (a := a) (N := N) (cp := cp) k52 k53 (by omega) (by omega) (by omega) a1 ha hel2) (fun E h1 q => by cases q.1) (fun v h9 q => ?_)
  obtain ⟨e1, e2⟩ := q
  cases e1
  rw [e2]
  clear e2 h9
  refine e_dup_x1 dJx4a65c_grow_92f84_40 rfl rfl ?_
  refine e_putR dJx4a65c_grow_92f84_41 flJx4a65c_9 (Or.inl rfl) rfl (show zK (cqH h ed a N cp) n = 0 + 1 from (eqAt_cq hna).1.trans k1) ?_
  refine e_aret dJx4a65c_grow_92f84_44 rfl rfl (by decide) (by decide) ?_
  exact ⟨rfl, rfl⟩
set_option maxHeartbeats 4000000 in
set_option maxRecDepth 100000 in
theorem c_grow1 {l : Launch} (hl : l.stackTraces = false) (hMi : MiOK) {h : zH} {n ed a N : Nat} {cp len : Int} {q : Int → Option Nat} (hA : LA h n ed cp len q) (hed : ed ≠ 0) (hlc : len = cp) (hc : (cp = 10 ∧ N = 15) ∨ (cp = 15 ∧ N = 22)) (a1 : 1 < a) (ha : zK h a = 0) (hna : n ≠ a) (hel : ∀ i, 0 ≤ i → i < cp → ∀ y, q i = some y → zK h y = 5) : zC l MJx4a65c_grow_d5877 [zR (some n)] h (fun o h' => o = .inl (some (zR (some a))) ∧ LA h' n a N len q ∧ ∀ m, m ≠ n → m ≠ a → eqAt m h h') := by
  refine zC_of hl rfl rfl (by decide) rfl rfl (Nat.le_of_ble_eq_true rfl) ?_
  obtain ⟨k1, k2, k3, k4, k5, k6⟩ := id hA
  obtain ⟨k50, k51, k52, k53⟩ := k5.resolve_left (fun z => hed z.1)
  have hea : ed ≠ a := fun z => by rw [z, ha] at k52; cases k52
  refine e_aload_n dJx4a65c_grow_d5877_0 rfl rfl ?_
  refine e_aload_n dJx4a65c_grow_d5877_1 rfl rfl ?_
  refine e_getI dJx4a65c_grow_d5877_2 flJx4a65c_48 rfl (show zK h n = 0 + 1 from k1) k3 (fun r2 => ?_)
  refine e_iconst dJx4a65c_grow_d5877_5 ?_
  refine e_iadd dJx4a65c_grow_d5877_6 ?_
  refine e_callV (As := [zI _]) (cb := 0) dJx4a65c_grow_d5877_7 moJx4a65c_grow_92f84 mvJx4a65c_grow_92f84 mlJx4a65c_69 (by decide) rfl (show zK h n = 0 + 1 from k1) rfl (Nat.le_of_ble_eq_true rfl) ⟨by decide, by decide, by decide, by decide⟩ (c_grow2 hl hMi (a := a) (N := N) hA hed hlc hc a1 ha hna hel) (fun E h1 q => by cases q.1) (fun v h9 q => ?_)
  obtain ⟨e1, e2⟩ := q
  cases e1
  rw [e2]
  clear e2 h9
  refine e_aret dJx4a65c_grow_d5877_10 rfl rfl (by decide) (by decide) ?_
  have en := eqAt_cq (h := h) (e := ed) (N := N) (cp := cp) hna
  refine ⟨rfl, ⟨en.1.trans k1, z2_eq, (en.2.2.1 2).trans k3, ⟨k4.1, by omega⟩, Or.inr ⟨by omega, fun z => hna z.symm, if_pos rfl, if_pos rfl⟩, fun i i0 i1 => ?_⟩, fun m m1 m2 => eqAt_tr (eqAt_cq m2) (eqAt_sr m1)⟩
  show (if a = a then zcp _ _ 0 0 cp i else _) = q i
  rw [if_pos rfl]
  unfold zcp
  rw [if_pos (by omega), Int.sub_zero, Int.zero_add]
  exact ((eqAt_nw hea).2.2.2.2.2.1 i).trans (k6 i i0 i1)
theorem g_more {l : Launch} (hl : l.stackTraces = false) (hMi : MiOK) : GMore l := by
  intro h n ed a cp len cp' q hA hed hlc hc a1 ha hna hel
  refine Or.inr ⟨hlc, fun h1 hA1 e => ?_⟩
  have hN : (cp = 10 ∧ cp'.toNat = 15) ∨ (cp = 15 ∧ cp'.toNat = 22) := by omega
  have e2 : ((cp'.toNat : Nat) : Int) = cp' := by omega
  have z := c_grow1 hl hMi (N := cp'.toNat) hA1 hed hlc hN a1 ((e a (fun y => hna y.symm)).1.trans ha) hna (fun i i0 i1 y hy => by
    have y1 := hel i i0 (by omega) y hy
    exact (e y y1.2).1.trans y1.1)
  rw [e2] at z
  exact z
