set_option maxHeartbeats 4000000 in
set_option maxRecDepth 100000 in
theorem c_X1_endGuess {l : Launch} (hl : l.stackTraces = false) {S : S9} {h : zH} {c : Int} (hC : RCl S h c) (v : Int) (hv : v = 0 ∨ v = 1) (g8 : 0 ≤ S 38 c ∧ S 38 c ≤ 1900000000) (g9 : 0 ≤ S 39 c ∧ S 39 c ≤ 1900000000)  : zC l MX1_endGuess [zR (some (nC c)), zI v] h (fun o h' => o = .inl none ∧ RCl (up (up S 38 c (S 38 c + 1)) 39 c (S 39 c + v)) h' c ∧ ∀ m, m ≠ nC c → eqAt m h h') := by
  refine zC_of hl rfl rfl (by decide) rfl rfl (Nat.le_of_ble_eq_true rfl) ?_
  obtain ⟨o1, o2, o3, o4, o5, o6, o7, o8⟩ := id hC
  refine e_aload_n dX1_endGuess_0 rfl rfl ?_
  refine e_dup dX1_endGuess_1 rfl ?_
  refine e_getI dX1_endGuess_2 flX1_42 rfl (show zK h (nC c) = 2 + 1 from o1) o7 (fun r2 => ?_)
  refine e_iconst dX1_endGuess_5 ?_
  refine e_iadd dX1_endGuess_6 ?_
  refine e_putI dX1_endGuess_7 flX1_42 (Or.inl rfl) trivial (show zK h (nC c) = 2 + 1 from o1) (by omega) ?_
  refine e_iload_n dX1_endGuess_10 rfl rfl ?_
  refine e_if_eq (tgt := 24) dX1_endGuess_11 (by decide) (by omega) (fun c11 => ?_) (fun c11 => ?_)
  · skip
    try simp only [b2_0, b2_n0] at c11
    refine e_vret dX1_endGuess_24 rfl (by decide) (by decide) ?_
    first
      | (have e : v = 0 := by omega
         subst e
         refine ⟨rfl, ?_, fun m m1 => eqAt_sf m1⟩
         refine ⟨?_, ?_, ?_, ?_, ?_, ?_, ?_, ?_⟩ <;> simp [s_ff, s_rf, s_Kf, up, o1, o2, o3, o4, o5, o6, o7, o8]
         done)
      | (have e : v = 1 := by omega
         subst e
         refine ⟨rfl, ?_, fun m m1 => eqAt_tr (eqAt_sf m1) (eqAt_sf m1)⟩
         refine ⟨?_, ?_, ?_, ?_, ?_, ?_, ?_, ?_⟩ <;> simp [s_ff, s_rf, s_Kf, up, o1, o2, o3, o4, o5, o6, o7, o8]
         done)
  · skip
    try simp only [b2_0, b2_n0] at c11
    refine e_aload_n dX1_endGuess_14 rfl rfl ?_
    refine e_dup dX1_endGuess_15 rfl ?_
    refine e_getI dX1_endGuess_16 flX1_45 rfl (show zK h (nC c) = 2 + 1 from o1) (show z2 (zf h) 205 (nC c) (S 38 c + 1) 206 (nC c) = S 39 c from (z2_ni (by decide)).trans o8) (fun r16 => ?_)
    refine e_iconst dX1_endGuess_19 ?_
    refine e_iadd dX1_endGuess_20 ?_
    refine e_putI dX1_endGuess_21 flX1_45 (Or.inl rfl) trivial (show zK h (nC c) = 2 + 1 from o1) (by omega) ?_
    refine e_vret dX1_endGuess_24 rfl (by decide) (by decide) ?_
    first
      | (have e : v = 0 := by omega
         subst e
         refine ⟨rfl, ?_, fun m m1 => eqAt_sf m1⟩
         refine ⟨?_, ?_, ?_, ?_, ?_, ?_, ?_, ?_⟩ <;> simp [s_ff, s_rf, s_Kf, up, o1, o2, o3, o4, o5, o6, o7, o8]
         done)
      | (have e : v = 1 := by omega
         subst e
         refine ⟨rfl, ?_, fun m m1 => eqAt_tr (eqAt_sf m1) (eqAt_sf m1)⟩
         refine ⟨?_, ?_, ?_, ?_, ?_, ?_, ?_, ?_⟩ <;> simp [s_ff, s_rf, s_Kf, up, o1, o2, o3, o4, o5, o6, o7, o8]
         done)
set_option maxHeartbeats 4000000 in
set_option maxRecDepth 100000 in
theorem c_X5_isRight {l : Launch} (hl : l.stackTraces = false) {S : S9} {h : zH} {s k : Int} {n : Nat} (hso : RSo S h s) (hK : RKey S h s k n) {q : Int → Int} (hc : RCo h s q) (hW : RW S h (S 18 (20 * s + k))) (hI : IW1 S (S 18 (20 * s + k))) (h10 : S 10 (S 18 (20 * s + k)) = 0 ∨ S 10 (S 18 (20 * s + k)) = 1) (h20 : 0 ≤ S 20 (20 * s + k) ∧ S 20 (20 * s + k) < 96)  : zC l MX5_isRight [zR (some (nS s)), zR (some n)] h (fun o h' => o = .inl (some (zI (b2 (0 ≤ (placeOf S (S 18 (20 * s + k)) (S 20 (20 * s + k))) ∧ S 10 (S 18 (20 * s + k)) = 1 ∧ q (placeOf S (S 18 (20 * s + k)) (S 20 (20 * s + k))) = S 19 (20 * s + k))))) ∧ h' = h) := by
  refine zC_of hl rfl rfl (by decide) rfl rfl (Nat.le_of_ble_eq_true rfl) ?_
  obtain ⟨o1, o2, o3, o4, o5, o6, o7, o8, o9⟩ := id hso
  obtain ⟨k1, k2, k3, k4, k5⟩ := id hK
  obtain ⟨t1, t2, t3⟩ := id hc
  have pin := placeOf_in (S := S) (w := (S 18 (20 * s + k))) (c := S 20 (20 * s + k))
  obtain ⟨u1, u2, u3, u4, u5, u6, u7, u8, -⟩ := id hW
  refine e_aload_n dX5_isRight_0 rfl rfl ?_
  refine e_getR dX5_isRight_1 flX5_102 rfl (show zK h n = 4 + 1 from k1) k3 ?_
  refine e_aload_n dX5_isRight_4 rfl rfl ?_
  refine e_getI dX5_isRight_5 flX5_110 rfl (show zK h n = 4 + 1 from k1) k4 (fun r5 => ?_)
  refine e_callV (As := [zI _]) (cb := 8) dX5_isRight_8 moX7_placeOf mvX7_placeOf mlX5_113 (by decide) rfl (show zK h (nW (S 18 (20 * s + k))) = 8 + 1 from u1) rfl (Nat.le_of_ble_eq_true rfl) ⟨by decide, by decide, by decide, by decide⟩ (c_X7_placeOf hl hW hI _ h20.1 h20.2) (fun E h1 q => by cases q.1) (fun v h9 q => ?_)
  obtain ⟨e1, e2⟩ := q; cases e1; rw [e2]; clear e2 h9
  refine e_istore_n dX5_isRight_11 rfl (by decide) rfl rfl ?_
  refine e_iload_n dX5_isRight_12 rfl rfl ?_
  refine e_iconst dX5_isRight_13 ?_
  refine e_icmp_eq (tgt := 44) dX5_isRight_14 (by decide) (by omega) (by omega) (fun c14 => ?_) (fun c14 => ?_)
  · skip
    refine e_iconst dX5_isRight_44 ?_
    refine e_iret dX5_isRight_45 rfl (by first | exact Or.inl rfl | exact Or.inr rfl | assumption | exact b2_01) (by decide) (by decide) ?_
    first
      | exact ⟨zqe (b2_f (by omega)).symm, rfl⟩
      | exact ⟨zqe (b2_t (by omega)).symm, rfl⟩
  · skip
    refine e_aload_n dX5_isRight_17 rfl rfl ?_
    refine e_getR dX5_isRight_18 flX5_102 rfl (show zK h n = 4 + 1 from k1) k3 ?_
    refine e_getI dX5_isRight_21 flX5_126 rfl (show zK h (nW (S 18 (20 * s + k))) = 8 + 1 from u1) (by assumption) (fun r21 => ?_)
    refine e_if_eq (tgt := 44) dX5_isRight_24 (by decide) (by omega) (fun c24 => ?_) (fun c24 => ?_)
    · skip
      try simp only [b2_0, b2_n0] at c24
      refine e_iconst dX5_isRight_44 ?_
      refine e_iret dX5_isRight_45 rfl (by first | exact Or.inl rfl | exact Or.inr rfl | assumption | exact b2_01) (by decide) (by decide) ?_
      first
        | exact ⟨zqe (b2_f (by omega)).symm, rfl⟩
        | exact ⟨zqe (b2_t (by omega)).symm, rfl⟩
    · skip
      try simp only [b2_0, b2_n0] at c24
      refine e_aload_n dX5_isRight_27 rfl rfl ?_
      refine e_getR dX5_isRight_28 flX5_27 rfl (show zK h (nS s) = 6 + 1 from o1) o5 ?_
      refine e_iload_n dX5_isRight_31 rfl rfl ?_
      refine e_iald dX5_isRight_32 (show zK h (nS s + 4) = 100 from t1) (by omega) (by rw [t2]; omega) (t3 _ (by omega) (by omega)) (fun r32 => ?_)
      refine e_aload_n dX5_isRight_33 rfl rfl ?_
      refine e_getI dX5_isRight_34 flX5_129 rfl (show zK h n = 4 + 1 from k1) k5 (fun r34 => ?_)
      refine e_icmp_ne (tgt := 44) dX5_isRight_37 (by decide) (by omega) (by omega) (fun c37 => ?_) (fun c37 => ?_)
      · skip
        refine e_iconst dX5_isRight_44 ?_
        refine e_iret dX5_isRight_45 rfl (by first | exact Or.inl rfl | exact Or.inr rfl | assumption | exact b2_01) (by decide) (by decide) ?_
        first
          | exact ⟨zqe (b2_f (by omega)).symm, rfl⟩
          | exact ⟨zqe (b2_t (by omega)).symm, rfl⟩
      · skip
        refine e_iconst dX5_isRight_40 ?_
        refine e_goto (tgt := 45) dX5_isRight_41 (by decide) ?_
        refine e_iret dX5_isRight_45 rfl (by first | exact Or.inl rfl | exact Or.inr rfl | assumption | exact b2_01) (by decide) (by decide) ?_
        first
          | exact ⟨zqe (b2_f (by omega)).symm, rfl⟩
          | exact ⟨zqe (b2_t (by omega)).symm, rfl⟩
