set_option maxHeartbeats 4000000 in
set_option maxRecDepth 100000 in
theorem c_X4_begin {l : Launch} (hl : l.stackTraces = false) {S : S9} {h : zH} {s : Int} (hf : RRf h s) (e32 : S 32 s = 0)  : zC l MX4_begin [zR (some (nS s + 9))] h (fun o h' => o = .inl none ∧ RRx S h' s (oldL S s) 0 ∧ ∀ m, m ≠ nS s + 9 → m ≠ nS s + 13 → eqAt m h h') := by
  refine zC_of hl rfl rfl (by decide) rfl rfl (Nat.le_of_ble_eq_true rfl) ?_
  obtain ⟨⟨o1, o2, o3, o4, o5, o6⟩, ⟨t1, t2⟩, ⟨u1, u2⟩, ⟨v1, v2⟩, ⟨w1, w2⟩, x1, x2⟩ := id hf
  refine e_aload_n dX4_begin_0 rfl rfl ?_
  refine e_iconst dX4_begin_1 ?_
  refine e_putI dX4_begin_2 flX4_27 (Or.inl rfl) trivial (show zK _ (nS s + 9) = 5 + 1 from o1) (by omega) ?_
  refine e_aload_n dX4_begin_5 rfl rfl ?_
  refine e_iconst dX4_begin_6 ?_
  refine e_putI dX4_begin_7 flX4_31 (Or.inl rfl) trivial (show zK _ (nS s + 9) = 5 + 1 from o1) (by omega) ?_
  refine e_aload_n dX4_begin_10 rfl rfl ?_
  refine e_getR dX4_begin_11 flX4_21 rfl (show zK _ (nS s + 9) = 5 + 1 from o1) o5 ?_
  refine e_iconst dX4_begin_14 ?_
  refine e_callS (As := [zR _, zI _]) dX4_begin_15 moJ7_fill_53178 msJ7_fill_53178 mlX4_34 rfl (Nat.le_of_ble_eq_true rfl) ⟨by decide, by decide, by decide, by decide⟩ (c_J7_fill_53178 hl (nS s + 13) 96 0 w1 w2 (by decide) (by decide) (by decide)) (fun E h1 q => by cases q.1) (fun v h1 q => ?_)
  obtain ⟨e1, f1, f2, f3, f4⟩ := q; cases e1
  refine e_vret dX4_begin_18 rfl (by decide) (by decide) ?_
  have e9 := f4 (nS s + 9) (by omega)
  refine ⟨rfl, RRx_beg ?_ e32 ?_ ?_ (fun p p0 p1 => f3 p p0 p1), fun m m1 m2 => eqAt_tr (eqAt_tr (eqAt_sf m1) (eqAt_sf m1)) (f4 m m2)⟩
  · have e10 := f4 (nS s + 10) (by omega)
    have e11 := f4 (nS s + 11) (by omega)
    have e12 := f4 (nS s + 12) (by omega)
    have e14 := f4 (nS s + 14) (by omega)
    exact ⟨⟨e9.1.trans o1, (e9.2.2.2.2.1 _).trans o2, (e9.2.2.2.2.1 _).trans o3, (e9.2.2.2.2.1 _).trans o4, (e9.2.2.2.2.1 _).trans o5, (e9.2.2.2.2.1 _).trans o6⟩, ⟨e10.1.trans t1, e10.2.1.trans t2⟩, ⟨e11.1.trans u1, e11.2.1.trans u2⟩, ⟨e12.1.trans v1, e12.2.1.trans v2⟩, ⟨f1, f2⟩, e14.1.trans x1, e14.2.1.trans x2⟩
  · exact (e9.2.2.1 505).trans (by simp [s_ff])
  · exact (e9.2.2.1 506).trans (by simp [s_ff])
set_option maxHeartbeats 4000000 in
set_option maxRecDepth 100000 in
theorem c_X4_isFull {l : Launch} (hl : l.stackTraces = false) {S : S9} {h : zH} {s cnt : Int} {lk : Int → Int} (hX : RRx S h s lk cnt)  : zC l MX4_isFull [zR (some (nS s + 9))] h (fun o h' => o = .inl (some (zI (b2 (60 ≤ S 32 s)))) ∧ h' = h) := by
  refine zC_of hl rfl rfl (by decide) rfl rfl (Nat.le_of_ble_eq_true rfl) ?_
  obtain ⟨hf, ⟨a2, a3⟩, a4, a5, a6⟩ := id hX
  obtain ⟨⟨o1, o2, o3, o4, o5, o6⟩, ⟨t1, t2⟩, ⟨u1, u2⟩, ⟨v1, v2⟩, ⟨w1, w2⟩, x1, x2⟩ := id hf
  refine e_aload_n dX4_isFull_0 rfl rfl ?_
  refine e_getI dX4_isFull_1 flX4_27 rfl (show zK _ (nS s + 9) = 5 + 1 from o1) a2 (fun r1 => ?_)
  refine e_bipush dX4_isFull_4 (by decide) ?_
  refine e_icmp_lt (tgt := 13) dX4_isFull_6 (by decide) (by omega) (by omega) (fun c6 => ?_) (fun c6 => ?_)
  · skip
    refine e_iconst dX4_isFull_13 ?_
    refine e_iret dX4_isFull_14 rfl (by first | exact Or.inl rfl | exact Or.inr rfl | assumption | exact b2_01) (by decide) (by decide) ?_
    exact ⟨zqe (by first | exact (b2_t (by omega)).symm | exact (b2_f (by omega)).symm), rfl⟩
  · skip
    refine e_iconst dX4_isFull_9 ?_
    refine e_goto (tgt := 14) dX4_isFull_10 (by decide) ?_
    refine e_iret dX4_isFull_14 rfl (by first | exact Or.inl rfl | exact Or.inr rfl | assumption | exact b2_01) (by decide) (by decide) ?_
    exact ⟨zqe (by first | exact (b2_t (by omega)).symm | exact (b2_f (by omega)).symm), rfl⟩
set_option maxHeartbeats 4000000 in
set_option maxRecDepth 100000 in
theorem c_X4_look {l : Launch} (hl : l.stackTraces = false) {S : S9} {h : zH} {s cnt : Int} {lk : Int → Int} (hX : RRx S h s lk cnt) (c0 : 0 ≤ cnt) (c1 : cnt < 5760) (q v : Int) (q0 : 0 ≤ q) (q1 : q < 96) (hv : zin v)  : zC l MX4_look [zR (some (nS s + 9)), zI q, zI v] h (fun o h' => o = .inl none ∧ RRx S h' s (fun p => if p = q then v else lk p) (cnt + b2 (v ≠ lk q)) ∧ ∀ m, m ≠ nS s + 9 → (∀ j, 10 ≤ j → j ≤ 13 → m ≠ nS s + j) → eqAt m h h') := by
  refine zC_of hl rfl rfl (by decide) rfl rfl (Nat.le_of_ble_eq_true rfl) ?_
  obtain ⟨hf, ⟨a2, a3⟩, a4, a5, a6⟩ := id hX
  obtain ⟨⟨o1, o2, o3, o4, o5, o6⟩, ⟨t1, t2⟩, ⟨u1, u2⟩, ⟨v1, v2⟩, ⟨w1, w2⟩, x1, x2⟩ := id hf
  refine e_aload_n dX4_look_0 rfl rfl ?_
  refine e_getR dX4_look_1 flX4_21 rfl (show zK _ (nS s + 9) = 5 + 1 from o1) o5 ?_
  refine e_iload_n dX4_look_4 rfl rfl ?_
  refine e_iald dX4_look_5 w1 q0 (by rw [w2]; exact q1) (a4 q q0 q1).1 (fun r5 => ?_)
  refine e_iload_n dX4_look_6 rfl rfl ?_
  refine e_icmp_eq (tgt := 59) dX4_look_7 (by decide) (by omega) (by omega) (fun c7 => ?_) (fun c7 => ?_)
  · skip
    refine e_vret dX4_look_59 rfl (by decide) (by decide) ?_
    first
      | exact ⟨rfl, RRx_eq (by rw [b2_t (by omega)]) (fun _ _ _ => rfl) rfl (fun _ _ _ _ _ _ => rfl) (RRx_look c0 q0 q1 hX), fun m m1 m2 => eqAt_tr (eqAt_tr (eqAt_tr (eqAt_sa (m2 10 (by decide) (by decide))) (eqAt_sa (m2 11 (by decide) (by decide)))) (eqAt_sf m1)) (eqAt_sa (m2 13 (by decide) (by decide)))⟩
      | exact ⟨rfl, RRx_eq (by rw [b2_f (by omega), Int.add_zero]) (fun p _ _ => by
          by_cases z : p = q
          · subst z; rw [if_pos rfl]; omega
          · rw [if_neg z]) rfl (fun _ _ _ _ _ _ => rfl) hX, fun m _ _ => eqAt_rf⟩
  · skip
    refine e_aload_n dX4_look_10 rfl rfl ?_
    refine e_getI dX4_look_11 flX4_31 rfl (show zK _ (nS s + 9) = 5 + 1 from o1) a3 (fun r11 => ?_)
    refine e_aload_n dX4_look_14 rfl rfl ?_
    refine e_getR dX4_look_15 flX4_9 rfl (show zK _ (nS s + 9) = 5 + 1 from o1) o2 ?_
    refine e_alen dX4_look_18 (t := 0) t1 t2 ?_
    refine e_icmp_ge (tgt := 59) dX4_look_19 (by decide) (by omega) (by omega) (fun c19 => ?_) (fun c19 => ?_)
    · skip
      exfalso; omega
    · skip
      refine e_aload_n dX4_look_22 rfl rfl ?_
      refine e_getR dX4_look_23 flX4_9 rfl (show zK _ (nS s + 9) = 5 + 1 from o1) o2 ?_
      refine e_aload_n dX4_look_26 rfl rfl ?_
      refine e_getI dX4_look_27 flX4_31 rfl (show zK _ (nS s + 9) = 5 + 1 from o1) a3 (fun r27 => ?_)
      refine e_iload_n dX4_look_30 rfl rfl ?_
      refine e_iast dX4_look_31 (show zK _ (nS s + 10) = 100 from t1) c0 (by show cnt < zN h (nS s + 10); rw [t2]; omega) (by omega) ?_
      refine e_aload_n dX4_look_32 rfl rfl ?_
      refine e_getR dX4_look_33 flX4_15 rfl (show zK _ (nS s + 9) = 5 + 1 from o1) o3 ?_
      refine e_aload_n dX4_look_36 rfl rfl ?_
      refine e_getI dX4_look_37 flX4_31 rfl (show zK _ (nS s + 9) = 5 + 1 from o1) a3 (fun r37 => ?_)
      refine e_iload_n dX4_look_40 rfl rfl ?_
      refine e_iast dX4_look_41 (show zK _ (nS s + 11) = 100 from u1) c0 (by show cnt < zN h (nS s + 11); rw [u2]; omega) (by omega) ?_
      refine e_aload_n dX4_look_42 rfl rfl ?_
      refine e_dup dX4_look_43 rfl ?_
      refine e_getI dX4_look_44 flX4_31 rfl (show zK _ (nS s + 9) = 5 + 1 from o1) a3 (fun r44 => ?_)
      refine e_iconst dX4_look_47 ?_
      refine e_iadd dX4_look_48 ?_
      refine e_putI dX4_look_49 flX4_31 (Or.inl rfl) trivial (show zK _ (nS s + 9) = 5 + 1 from o1) (by omega) ?_
      refine e_aload_n dX4_look_52 rfl rfl ?_
      refine e_getR dX4_look_53 flX4_21 rfl (show zK _ (nS s + 9) = 5 + 1 from o1) o5 ?_
      refine e_iload_n dX4_look_56 rfl rfl ?_
      refine e_iload_n dX4_look_57 rfl rfl ?_
      refine e_iast dX4_look_58 (show zK _ (nS s + 13) = 100 from w1) q0 (by show q < zN h (nS s + 13); rw [w2]; exact q1) (by omega) ?_
      refine e_vret dX4_look_59 rfl (by decide) (by decide) ?_
      first
        | exact ⟨rfl, RRx_eq (by rw [b2_t (by omega)]) (fun _ _ _ => rfl) rfl (fun _ _ _ _ _ _ => rfl) (RRx_look c0 q0 q1 hX), fun m m1 m2 => eqAt_tr (eqAt_tr (eqAt_tr (eqAt_sa (m2 10 (by decide) (by decide))) (eqAt_sa (m2 11 (by decide) (by decide)))) (eqAt_sf m1)) (eqAt_sa (m2 13 (by decide) (by decide)))⟩
        | exact ⟨rfl, RRx_eq (by rw [b2_f (by omega), Int.add_zero]) (fun p _ _ => by
            by_cases z : p = q
            · subst z; rw [if_pos rfl]; omega
            · rw [if_neg z]) rfl (fun _ _ _ _ _ _ => rfl) hX, fun m _ _ => eqAt_rf⟩
set_option maxHeartbeats 4000000 in
set_option maxRecDepth 100000 in
theorem c_X4_endTick {l : Launch} (hl : l.stackTraces = false) {S : S9} {h : zH} {s cnt : Int} {lk : Int → Int} (hX : RRx S h s lk cnt) {S' : S9} (c0 : 0 ≤ cnt) (c1 : cnt ≤ 5760) (t0 : 0 ≤ S 32 s) (t60 : S 32 s < 60) (e3 : S' 32 s = S 32 s + 1) (e4 : ∀ t p, 1 ≤ t → t ≤ S 32 s → 0 ≤ p → p < 96 → S' 34 ((60 * s + (t - 1)) * 96 + p) = S 34 ((60 * s + (t - 1)) * 96 + p)) (e5 : ∀ p, 0 ≤ p → p < 96 → S' 34 ((60 * s + S 32 s) * 96 + p) = lk p)  : zC l MX4_endTick [zR (some (nS s + 9))] h (fun o h' => o = .inl none ∧ RRx S' h' s lk cnt ∧ ∀ m, m ≠ nS s + 9 → m ≠ nS s + 12 → eqAt m h h') := by
  refine zC_of hl rfl rfl (by decide) rfl rfl (Nat.le_of_ble_eq_true rfl) ?_
  obtain ⟨hf, ⟨a2, a3⟩, a4, a5, a6⟩ := id hX
  obtain ⟨⟨o1, o2, o3, o4, o5, o6⟩, ⟨t1, t2⟩, ⟨u1, u2⟩, ⟨v1, v2⟩, ⟨w1, w2⟩, x1, x2⟩ := id hf
  refine e_aload_n dX4_endTick_0 rfl rfl ?_
  refine e_getI dX4_endTick_1 flX4_27 rfl (show zK _ (nS s + 9) = 5 + 1 from o1) a2 (fun r1 => ?_)
  refine e_bipush dX4_endTick_4 (by decide) ?_
  refine e_icmp_ge (tgt := 32) dX4_endTick_6 (by decide) (by omega) (by omega) (fun c6 => ?_) (fun c6 => ?_)
  · skip
    exfalso; omega
  · skip
    refine e_aload_n dX4_endTick_9 rfl rfl ?_
    refine e_dup dX4_endTick_10 rfl ?_
    refine e_getI dX4_endTick_11 flX4_27 rfl (show zK _ (nS s + 9) = 5 + 1 from o1) a2 (fun r11 => ?_)
    refine e_iconst dX4_endTick_14 ?_
    refine e_iadd dX4_endTick_15 ?_
    refine e_putI dX4_endTick_16 flX4_27 (Or.inl rfl) trivial (show zK _ (nS s + 9) = 5 + 1 from o1) (by omega) ?_
    refine e_aload_n dX4_endTick_19 rfl rfl ?_
    refine e_getR dX4_endTick_20 flX4_18 rfl (show zK _ (nS s + 9) = 5 + 1 from o1) o4 ?_
    refine e_aload_n dX4_endTick_23 rfl rfl ?_
    refine e_getI dX4_endTick_24 flX4_27 rfl (show zK _ (nS s + 9) = 5 + 1 from o1) (show z2 (zf h) 505 (nS s + 9) (S 32 s + 1) 505 (nS s + 9) = S 32 s + 1 from z2_eq) (fun r24 => ?_)
    refine e_aload_n dX4_endTick_27 rfl rfl ?_
    refine e_getI dX4_endTick_28 flX4_31 rfl (show zK _ (nS s + 9) = 5 + 1 from o1) (show z2 (zf h) 505 (nS s + 9) (S 32 s + 1) 506 (nS s + 9) = cnt from (z2_ni (by decide)).trans a3) (fun r28 => ?_)
    refine e_iast dX4_endTick_31 (show zK _ (nS s + 12) = 100 from v1) (by omega) (by show S 32 s + 1 < zN h (nS s + 12); rw [v2]; omega) (by omega) ?_
    refine e_vret dX4_endTick_32 rfl (by decide) (by decide) ?_
    exact ⟨rfl, RRx_end c0 e3 e4 e5 hX, fun m m1 m2 => eqAt_tr (eqAt_sf m1) (eqAt_sa m2)⟩
set_option maxHeartbeats 4000000 in
set_option maxRecDepth 100000 in
theorem c_X4_play {l : Launch} (hl : l.stackTraces = false) {S : S9} {h : zH} {s cnt : Int} {lk : Int → Int} (hX : RRx S h s lk cnt) (t : Int) (ht : zin t) (q0 : 0 ≤ S 32 s) (q1 : S 32 s ≤ 60) (q2 : cnt ≤ 5760)  : zC l MX4_play [zR (some (nS s + 9)), zI t] h (fun o h' => o = .inl none ∧ RRx S h' s lk cnt ∧ (∀ p, 0 ≤ p → p < 96 → za h' (nS s + 14) p = if 1 ≤ t ∧ t ≤ S 32 s then S 34 ((60 * s + (t - 1)) * 96 + p) else 0) ∧ ∀ m, m ≠ nS s + 14 → eqAt m h h') := by
  refine zC_of hl rfl rfl (by decide) rfl rfl (Nat.le_of_ble_eq_true rfl) ?_
  obtain ⟨hf, ⟨a2, a3⟩, a4, a5, a6⟩ := id hX
  obtain ⟨⟨o1, o2, o3, o4, o5, o6⟩, ⟨t1, t2⟩, ⟨u1, u2⟩, ⟨v1, v2⟩, ⟨w1, w2⟩, x1, x2⟩ := id hf
  refine e_aload_n dX4_play_0 rfl rfl ?_
  refine e_getR dX4_play_1 flX4_24 rfl (show zK _ (nS s + 9) = 5 + 1 from o1) o6 ?_
  refine e_iconst dX4_play_4 ?_
  refine e_callS (As := [zR _, zI _]) dX4_play_5 moJ7_fill_53178 msJ7_fill_53178 mlX4_34 rfl (Nat.le_of_ble_eq_true rfl) ⟨by decide, by decide, by decide, by decide⟩ (c_J7_fill_53178 hl (nS s + 14) 96 0 x1 x2 (by decide) (by decide) (by decide)) (fun E h1 q => by cases q.1) (fun v h9 q => ?_)
  obtain ⟨e1, f1, f2, f3, f4⟩ := q; cases e1
  have hX2 : RRx S h9 s lk cnt := RRx_14 f4 f1 f2 hX
  clear o1 o2 o3 o4 o5 o6 t1 t2 u1 u2 v1 v2 w1 w2 x1 x2 a2 a3 a4 a5 a6 hf
  obtain ⟨hf, ⟨a2, a3⟩, a4, a5, a6⟩ := id hX2
  obtain ⟨⟨o1, o2, o3, o4, o5, o6⟩, ⟨t1, t2⟩, ⟨u1, u2⟩, ⟨v1, v2⟩, ⟨w1, w2⟩, x1, x2⟩ := id hf
  refine e_iload_n dX4_play_8 rfl rfl ?_
  refine e_iconst dX4_play_9 ?_
  refine e_aload_n dX4_play_10 rfl rfl ?_
  refine e_getI dX4_play_11 flX4_27 rfl (show zK _ (nS s + 9) = 5 + 1 from o1) a2 (fun r11 => ?_)
  refine e_callSN (As := [zI _, zI _, zI _]) (host := RX8) dX4_play_14 moX8_isWithin msX8_isWithin (by decide +kernel) rfl (Nat.le_of_ble_eq_true rfl) ⟨by decide, by decide, by decide, by decide⟩ (c_X8_isWithin hl t 1 (S 32 s) (by omega) (by decide) (by omega)) (fun E h1 q => by cases q.1) (fun v h9 q => ?_)
  obtain ⟨e1, e2⟩ := q; cases e1; rw [e2]; clear e2 h9
  refine e_if_eq (tgt := 57) dX4_play_17 (by decide) b2_in (fun c17 => ?_) (fun c17 => ?_)
  · skip
    try simp only [b2_0, b2_n0] at c17
    refine e_vret dX4_play_57 rfl (by decide) (by decide) ?_
    first
      | exact ⟨rfl, hX3, fun p p0 p1 => by rw [if_pos (by omega), pl2 p p0 p1, show i = N by omega]; exact a7.2 p p0 p1, fun m m1 => eqAt_tr (f4 m m1) (e2 m m1)⟩
      | exact ⟨rfl, hX2, fun p p0 p1 => by rw [if_neg (by omega)]; exact f3 p p0 p1, f4⟩
  · skip
    try simp only [b2_0, b2_n0] at c17
    refine e_aload_n dX4_play_20 rfl rfl ?_
    refine e_getR dX4_play_21 flX4_18 rfl (show zK _ (nS s + 9) = 5 + 1 from o1) o4 ?_
    refine e_iload_n dX4_play_24 rfl rfl ?_
    refine e_iald dX4_play_25 v1 (by omega) (by rw [v2]; omega) rfl (fun r25 => ?_)
    have a7 := a6 t (by omega) (by omega)
    generalize hN : za h9 (nS s + 12) t = N at a7 ⊢
    refine e_istore_n dX4_play_26 rfl (by decide) rfl rfl ?_
    refine e_iconst dX4_play_27 ?_
    refine e_istore_n dX4_play_28 rfl (by decide) rfl rfl ?_
    have lp29 : ∀ (d : Nat) (i : Int) (h2 : zH), (N - i).toNat < d → 0 ≤ i → i ≤ N → RRx S h2 s lk cnt → (∀ p, 0 ≤ p → p < 96 → za h2 (nS s + 14) p = plN (za h9 (nS s + 10)) (za h9 (nS s + 11)) i.toNat p) → (∀ m, m ≠ nS s + 14 → eqAt m h9 h2) → AW l MX4_play (fun o h' => o = .inl none ∧ RRx S h' s lk cnt ∧ (∀ p, 0 ≤ p → p < 96 → za h' (nS s + 14) p = if 1 ≤ t ∧ t ≤ S 32 s then S 34 ((60 * s + (t - 1)) * 96 + p) else 0) ∧ ∀ m, m ≠ nS s + 14 → eqAt m h h') 0 0 29 [zR (some (nS s + 9)), zI t, zI N, zI i] [] h2 := by
      intro d
      induction d with
      | zero => intro i h2 hd i0 i1 hX3 pl2 e2; exact absurd hd (by omega)
      | succ d ih =>
        have ih29 := ih
        intro i h2 hd i0 i1 hX3 pl2 e2
        obtain ⟨⟨⟨b1, bb2, b3, b4, b5, b6⟩, ⟨g1, g2⟩, ⟨k1, k2⟩, -, -, y1, y2⟩, -⟩ := id hX3
        refine e_iload_n dX4_play_29 rfl rfl ?_
        refine e_iload_n dX4_play_30 rfl rfl ?_
        refine e_icmp_ge (tgt := 57) dX4_play_31 (by decide) (by omega) (by omega) (fun c31 => ?_) (fun c31 => ?_)
        · skip
          refine e_vret dX4_play_57 rfl (by decide) (by decide) ?_
          first
            | exact ⟨rfl, hX3, fun p p0 p1 => by rw [if_pos (by omega), pl2 p p0 p1, show i = N by omega]; exact a7.2 p p0 p1, fun m m1 => eqAt_tr (f4 m m1) (e2 m m1)⟩
            | exact ⟨rfl, hX2, fun p p0 p1 => by rw [if_neg (by omega)]; exact f3 p p0 p1, f4⟩
        · skip
          refine e_aload_n dX4_play_34 rfl rfl ?_
          refine e_getR dX4_play_35 flX4_24 rfl (show zK _ (nS s + 9) = 5 + 1 from b1) b6 ?_
          refine e_aload_n dX4_play_38 rfl rfl ?_
          refine e_getR dX4_play_39 flX4_9 rfl (show zK _ (nS s + 9) = 5 + 1 from b1) bb2 ?_
          refine e_iload_n dX4_play_42 rfl rfl ?_
          refine e_iald dX4_play_43 (show zK h2 (nS s + 10) = 100 from g1) i0 (by rw [g2]; omega) ((e2 (nS s + 10) (by omega)).2.2.2.1 i) (fun r43 => ?_)
          refine e_aload_n dX4_play_44 rfl rfl ?_
          refine e_getR dX4_play_45 flX4_15 rfl (show zK _ (nS s + 9) = 5 + 1 from b1) b3 ?_
          refine e_iload_n dX4_play_48 rfl rfl ?_
          refine e_iald dX4_play_49 (show zK h2 (nS s + 11) = 100 from k1) i0 (by rw [k2]; omega) ((e2 (nS s + 11) (by omega)).2.2.2.1 i) (fun r49 => ?_)
          refine e_iast dX4_play_50 (show zK h2 (nS s + 14) = 100 from y1) (a5 i i0 (by omega)).1 (by rw [y2]; exact (a5 i i0 (by omega)).2) r49 ?_
          refine e_iinc dX4_play_51 (by decide) rfl rfl rfl rfl ?_
          refine e_goto (tgt := 29) dX4_play_54 (by decide) ?_
          exact ih29 _ _ (by omega) (by omega) (by omega) (RRx_14 (fun m m1 => eqAt_sa m1) y1 y2 hX3) (fun p p0 p1 => by
            rw [show (i + 1).toNat = i.toNat + 1 by omega, plN_s, show ((i.toNat : Nat) : Int) = i by omega]
            by_cases z : p = za h9 (nS s + 10) i
            · rw [if_pos z, z]; exact z3_eq
            · rw [if_neg z]; exact (z3_ni z).trans (pl2 p p0 p1)) (fun m m1 => eqAt_tr (e2 m m1) (eqAt_sa m1))
    exact lp29 (N + 1).toNat 0 h9 (by omega) (by omega) (by omega) hX2 (fun p p0 p1 => f3 p p0 p1) (fun m _ => eqAt_rf)
set_option maxHeartbeats 4000000 in
set_option maxRecDepth 100000 in
theorem c_X4_isAsLookedAt {l : Launch} (hl : l.stackTraces = false) {S : S9} {h : zH} {s : Int} (hX0 : RR S h s) (q0 : 0 ≤ S 32 s) (q1 : S 32 s ≤ 60) (q2 : S 33 s ≤ 5760)  : zC l MX4_isAsLookedAt [zR (some (nS s + 9))] h (fun o h' => o = .inl (some (zI 1)) ∧ RR S h' s ∧ ∀ m, m ≠ nS s + 14 → eqAt m h h') := by
  refine zC_of hl rfl rfl (by decide) rfl rfl (Nat.le_of_ble_eq_true rfl) ?_
  have hX : RRx S h s (oldL S s) (S 33 s) := hX0
  obtain ⟨hf, ⟨a2, a3⟩, a4, a5, a6⟩ := id hX
  obtain ⟨⟨o1, o2, o3, o4, o5, o6⟩, ⟨t1, t2⟩, ⟨u1, u2⟩, ⟨v1, v2⟩, ⟨w1, w2⟩, x1, x2⟩ := id hf
  refine e_aload_n dX4_isAsLookedAt_0 rfl rfl ?_
  refine e_aload_n dX4_isAsLookedAt_1 rfl rfl ?_
  refine e_getI dX4_isAsLookedAt_2 flX4_27 rfl (show zK _ (nS s + 9) = 5 + 1 from o1) a2 (fun r2 => ?_)
  refine e_callV (As := [zI _]) (cb := 5) dX4_isAsLookedAt_5 moX4_play mvX4_play mlX4_44 (by decide) rfl (show zK _ (nS s + 9) = 5 + 1 from o1) rfl (Nat.le_of_ble_eq_true rfl) ⟨by decide, by decide, by decide, by decide⟩ (c_X4_play hl hX (S 32 s) (by omega) q0 q1 q2) (fun E h1 q => by cases q.1) (fun v h1 q => ?_)
  obtain ⟨e1, hX2, hp, e2⟩ := q; cases e1
  obtain ⟨⟨⟨b1, b7, b3, b4, b5, b6⟩, -, -, -, ⟨y3, y4⟩, y1, y2⟩, -, a8, -⟩ := id hX2
  refine e_iconst dX4_isAsLookedAt_8 ?_
  refine e_istore_n dX4_isAsLookedAt_9 rfl (by decide) rfl rfl ?_
  have lp10 : ∀ (d : Nat) (i : Int), (96 - i).toNat < d → 0 ≤ i → i ≤ 96 → AW l MX4_isAsLookedAt (fun o h' => o = .inl (some (zI 1)) ∧ RR S h' s ∧ ∀ m, m ≠ nS s + 14 → eqAt m h h') 0 0 10 [zR (some (nS s + 9)), zI i] [] h1 := by
    intro d
    induction d with
    | zero => intro i hd i0 i1; exact absurd hd (by omega)
    | succ d ih =>
      have ih10 := ih
      intro i hd i0 i1
      refine e_iload_n dX4_isAsLookedAt_10 rfl rfl ?_
      refine e_bipush dX4_isAsLookedAt_11 (by decide) ?_
      refine e_icmp_ge (tgt := 39) dX4_isAsLookedAt_13 (by decide) (by omega) (by omega) (fun c13 => ?_) (fun c13 => ?_)
      · skip
        refine e_iconst dX4_isAsLookedAt_39 ?_
        refine e_iret dX4_isAsLookedAt_40 rfl (by first | exact Or.inl rfl | exact Or.inr rfl | assumption | exact b2_01) (by decide) (by decide) ?_
        exact ⟨rfl, hX2, e2⟩
      · skip
        refine e_aload_n dX4_isAsLookedAt_16 rfl rfl ?_
        refine e_getR dX4_isAsLookedAt_17 flX4_24 rfl (show zK _ (nS s + 9) = 5 + 1 from b1) b6 ?_
        refine e_iload_n dX4_isAsLookedAt_20 rfl rfl ?_
        refine e_iald dX4_isAsLookedAt_21 y1 i0 (by rw [y2]; omega) rfl (fun r21 => ?_)
        refine e_aload_n dX4_isAsLookedAt_22 rfl rfl ?_
        refine e_getR dX4_isAsLookedAt_23 flX4_21 rfl (show zK _ (nS s + 9) = 5 + 1 from b1) b5 ?_
        refine e_iload_n dX4_isAsLookedAt_26 rfl rfl ?_
        refine e_iald dX4_isAsLookedAt_27 y3 i0 (by rw [y4]; omega) rfl (fun r27 => ?_)
        have e5 : za h1 (nS s + 14) i = za h1 (nS s + 13) i := by
          rw [hp i i0 (by omega), (a8 i i0 (by omega)).1]
          unfold oldL
          by_cases z : S 32 s = 0
          · rw [if_pos z, if_neg (by omega)]
          · rw [if_neg z, if_pos (by omega)]
        refine e_icmp_eq (tgt := 33) dX4_isAsLookedAt_28 (by decide) (by omega) (by omega) (fun c28 => ?_) (fun c28 => ?_)
        · skip
          refine e_iinc dX4_isAsLookedAt_33 (by decide) rfl rfl rfl rfl ?_
          refine e_goto (tgt := 10) dX4_isAsLookedAt_36 (by decide) ?_
          exact ih10 _ (by omega) (by omega) (by omega)
        · skip
          exfalso; omega
  exact lp10 97 0 (by decide) (by decide) (by decide)
set_option maxHeartbeats 4000000 in
set_option maxRecDepth 100000 in
theorem c_X4_init {l : Launch} (hl : l.stackTraces = false) {h : zH} {s : Int} (k9 : zK h (nS s + 9) = 6) (k10 : zK h (nS s + 10) = 0) (k11 : zK h (nS s + 11) = 0) (k12 : zK h (nS s + 12) = 0) (k13 : zK h (nS s + 13) = 0) (k14 : zK h (nS s + 14) = 0) (f5 : zf h 505 (nS s + 9) = 0) (f6 : zf h 506 (nS s + 9) = 0)  : zC l MX4_init [zR (some (nS s + 9))] h (fun o h' => o = .inl none ∧ RRf h' s ∧ zf h' 505 (nS s + 9) = 0 ∧ zf h' 506 (nS s + 9) = 0 ∧ ∀ m, (∀ j, 9 ≤ j → j ≤ 14 → m ≠ nS s + j) → eqAt m h h') := by
  refine zC_of hl rfl rfl (by decide) rfl rfl (Nat.le_of_ble_eq_true rfl) ?_
  refine e_aload_n dX4_init_0 rfl rfl ?_
  refine e_objInit dX4_init_1 mlX4_3 tw_oiI tw_oiC (by decide) (by decide) ?_
  refine e_aload_n dX4_init_4 rfl rfl ?_
  refine e_sipush dX4_init_5 (by decide) ?_
  refine e_newa (nS s + 10) 0 5760 dX4_init_8 (by decide) rfl tw_arrInt rfl (by decide) (by unfold nS; omega) (by simp [s_ff, s_fr, s_fn, s_rf, s_rr, s_rn, s_Kf, s_Kr, s_Kn, s_Nf, s_Nr, s_Nn, s_af, s_ar, s_an, k9, k10, k11, k12, k13, k14]) (by decide) (by decide) ?_
  refine e_putR dX4_init_10 flX4_9 (Or.inr ⟨rfl, rfl, rfl⟩) rfl (by simp [s_ff, s_fr, s_fn, s_rf, s_rr, s_rn, s_Kf, s_Kr, s_Kn, s_Nf, s_Nr, s_Nn, s_af, s_ar, s_an, k9, k10, k11, k12, k13, k14]) ?_
  refine e_aload_n dX4_init_13 rfl rfl ?_
  refine e_sipush dX4_init_14 (by decide) ?_
  refine e_newa (nS s + 11) 0 5760 dX4_init_17 (by decide) rfl tw_arrInt rfl (by decide) (by unfold nS; omega) (by simp [s_ff, s_fr, s_fn, s_rf, s_rr, s_rn, s_Kf, s_Kr, s_Kn, s_Nf, s_Nr, s_Nn, s_af, s_ar, s_an, k9, k10, k11, k12, k13, k14]) (by decide) (by decide) ?_
  refine e_putR dX4_init_19 flX4_15 (Or.inr ⟨rfl, rfl, rfl⟩) rfl (by simp [s_ff, s_fr, s_fn, s_rf, s_rr, s_rn, s_Kf, s_Kr, s_Kn, s_Nf, s_Nr, s_Nn, s_af, s_ar, s_an, k9, k10, k11, k12, k13, k14]) ?_
  refine e_aload_n dX4_init_22 rfl rfl ?_
  refine e_bipush dX4_init_23 (by decide) ?_
  refine e_newa (nS s + 12) 0 61 dX4_init_25 (by decide) rfl tw_arrInt rfl (by decide) (by unfold nS; omega) (by simp [s_ff, s_fr, s_fn, s_rf, s_rr, s_rn, s_Kf, s_Kr, s_Kn, s_Nf, s_Nr, s_Nn, s_af, s_ar, s_an, k9, k10, k11, k12, k13, k14]) (by decide) (by decide) ?_
  refine e_putR dX4_init_27 flX4_18 (Or.inr ⟨rfl, rfl, rfl⟩) rfl (by simp [s_ff, s_fr, s_fn, s_rf, s_rr, s_rn, s_Kf, s_Kr, s_Kn, s_Nf, s_Nr, s_Nn, s_af, s_ar, s_an, k9, k10, k11, k12, k13, k14]) ?_
  refine e_aload_n dX4_init_30 rfl rfl ?_
  refine e_bipush dX4_init_31 (by decide) ?_
  refine e_newa (nS s + 13) 0 96 dX4_init_33 (by decide) rfl tw_arrInt rfl (by decide) (by unfold nS; omega) (by simp [s_ff, s_fr, s_fn, s_rf, s_rr, s_rn, s_Kf, s_Kr, s_Kn, s_Nf, s_Nr, s_Nn, s_af, s_ar, s_an, k9, k10, k11, k12, k13, k14]) (by decide) (by decide) ?_
  refine e_putR dX4_init_35 flX4_21 (Or.inr ⟨rfl, rfl, rfl⟩) rfl (by simp [s_ff, s_fr, s_fn, s_rf, s_rr, s_rn, s_Kf, s_Kr, s_Kn, s_Nf, s_Nr, s_Nn, s_af, s_ar, s_an, k9, k10, k11, k12, k13, k14]) ?_
  refine e_aload_n dX4_init_38 rfl rfl ?_
  refine e_bipush dX4_init_39 (by decide) ?_
  refine e_newa (nS s + 14) 0 96 dX4_init_41 (by decide) rfl tw_arrInt rfl (by decide) (by unfold nS; omega) (by simp [s_ff, s_fr, s_fn, s_rf, s_rr, s_rn, s_Kf, s_Kr, s_Kn, s_Nf, s_Nr, s_Nn, s_af, s_ar, s_an, k9, k10, k11, k12, k13, k14]) (by decide) (by decide) ?_
  refine e_putR dX4_init_43 flX4_24 (Or.inr ⟨rfl, rfl, rfl⟩) rfl (by simp [s_ff, s_fr, s_fn, s_rf, s_rr, s_rn, s_Kf, s_Kr, s_Kn, s_Nf, s_Nr, s_Nn, s_af, s_ar, s_an, k9, k10, k11, k12, k13, k14]) ?_
  refine e_vret dX4_init_46 rfl (by decide) (by decide) ?_
  refine ⟨rfl, ?_, ?_, ?_, fun m m1 => ?_⟩
  · refine ⟨⟨?_, ?_, ?_, ?_, ?_, ?_⟩, ⟨?_, ?_⟩, ⟨?_, ?_⟩, ⟨?_, ?_⟩, ⟨?_, ?_⟩, ?_, ?_⟩
    all_goals simp [s_ff, s_fr, s_fn, s_rf, s_rr, s_rn, s_Kf, s_Kr, s_Kn, s_Nf, s_Nr, s_Nn, s_af, s_ar, s_an, k9, k10, k11, k12, k13, k14]
  · simp [s_ff, s_fr, s_fn, s_rf, s_rr, s_rn, s_Kf, s_Kr, s_Kn, s_Nf, s_Nr, s_Nn, s_af, s_ar, s_an, k9, k10, k11, k12, k13, k14, f5]
  · simp [s_ff, s_fr, s_fn, s_rf, s_rr, s_rn, s_Kf, s_Kr, s_Kn, s_Nf, s_Nr, s_Nn, s_af, s_ar, s_an, k9, k10, k11, k12, k13, k14, f6]
  · exact eqAt_tr (eqAt_tr (eqAt_tr (eqAt_tr (eqAt_tr (eqAt_tr (eqAt_tr (eqAt_tr (eqAt_tr (eqAt_nw (m1 10 (by decide) (by decide))) (eqAt_sr (m1 9 (by decide) (by decide)))) (eqAt_nw (m1 11 (by decide) (by decide)))) (eqAt_sr (m1 9 (by decide) (by decide)))) (eqAt_nw (m1 12 (by decide) (by decide)))) (eqAt_sr (m1 9 (by decide) (by decide)))) (eqAt_nw (m1 13 (by decide) (by decide)))) (eqAt_sr (m1 9 (by decide) (by decide)))) (eqAt_nw (m1 14 (by decide) (by decide)))) (eqAt_sr (m1 9 (by decide) (by decide)))
