set_option maxHeartbeats 4000000 in
set_option maxRecDepth 100000 in
theorem c_X0_tryCopies {l : Launch} (hl : l.stackTraces = false) {S : S9} {h : zH} {c : Int} (hR : RCh S h c) (hC : RCo h (S 35 c) (screenAt S (S 35 c))) (c1 : c < 6) (s0 : 0 ≤ S 35 c) (s1 : S 35 c < 4) {b : T6} (hB : CBr h (nC c + 1) b) (p : Int) (p0 : 0 ≤ p) (p1 : p < 96) (e7 : zf h 107 (nC c + 1) = p)  : zC l MX0_tryCopies [zR (some (nC c + 1))] h (fun o h' => o = .inl none ∧ CBr h' (nC c + 1) (cpA (Pc S c) (Rc S c) p b 25) ∧ RCh S h' c ∧ zf h' 107 (nC c + 1) = p ∧ (∀ m, m ≠ nC c + 1 → m ≠ nC c + 4 → eqAt m h h')) := by
  refine zC_of hl rfl rfl (by decide) rfl rfl (Nat.le_of_ble_eq_true rfl) ?_
  refine e_bipush dX0_tryCopies_0 (by decide) ?_
  refine e_istore_n dX0_tryCopies_2 rfl (by decide) rfl rfl ?_
  have lp3 : ∀ (d : Nat) (i : Int) (h1 : zH), (3 - i).toNat < d → -2 ≤ i → i ≤ 3 → CBr h1 (nC c + 1) (cpA (Pc S c) (Rc S c) p b (5 * (i + 2)).toNat) → RCh S h1 c → RCo h1 (S 35 c) (screenAt S (S 35 c)) → zf h1 107 (nC c + 1) = p → (∀ m, m ≠ nC c + 1 → m ≠ nC c + 4 → eqAt m h h1) → AW l MX0_tryCopies (fun o h' => o = .inl none ∧ CBr h' (nC c + 1) (cpA (Pc S c) (Rc S c) p b 25) ∧ RCh S h' c ∧ zf h' 107 (nC c + 1) = p ∧ (∀ m, m ≠ nC c + 1 → m ≠ nC c + 4 → eqAt m h h')) 0 0 3 [zR (some (nC c + 1)), zI i, zX] [] h1 := by
    intro d
    induction d with
    | zero => intro i h1 hd i0 i1 hB1 hR1 hC1 e71 hF1; exact absurd hd (by omega)
    | succ d ih =>
      have ih3 := ih
      intro i h1 hd i0 i1 hB1 hR1 hC1 e71 hF1
      refine e_iload_n dX0_tryCopies_3 rfl rfl ?_
      refine e_iconst dX0_tryCopies_4 ?_
      refine e_icmp_gt (tgt := 42) dX0_tryCopies_5 (by decide) (by omega) (by omega) (fun c5 => ?_) (fun c5 => ?_)
      · skip
        refine e_vret dX0_tryCopies_42 rfl (by decide) (by decide) ?_
        rw [show i = 3 by omega] at hB1
        have e25 : (5 * ((3 : Int) + 2)).toNat = 25 := rfl
        rw [e25] at hB1
        exact ⟨rfl, hB1, hR1, e71, hF1⟩
      · skip
        refine e_bipush dX0_tryCopies_8 (by decide) ?_
        refine e_istore_n dX0_tryCopies_10 rfl (by decide) rfl rfl ?_
        have lp11 : ∀ (d : Nat) (j : Int) (h2 : zH), (3 - j).toNat < d → -2 ≤ j → j ≤ 3 → CBr h2 (nC c + 1) (cpA (Pc S c) (Rc S c) p b (5 * (i + 2) + (j + 2)).toNat) → RCh S h2 c → RCo h2 (S 35 c) (screenAt S (S 35 c)) → zf h2 107 (nC c + 1) = p → (∀ m, m ≠ nC c + 1 → m ≠ nC c + 4 → eqAt m h h2) → AW l MX0_tryCopies (fun o h' => o = .inl none ∧ CBr h' (nC c + 1) (cpA (Pc S c) (Rc S c) p b 25) ∧ RCh S h' c ∧ zf h' 107 (nC c + 1) = p ∧ (∀ m, m ≠ nC c + 1 → m ≠ nC c + 4 → eqAt m h h')) 0 0 11 [zR (some (nC c + 1)), zI i, zI j] [] h2 := by
          intro d
          induction d with
          | zero => intro j h2 hd j0 j1 hB2 hR2 hC2 e72 hF2; exact absurd hd (by omega)
          | succ d ih =>
            have ih11 := ih
            intro j h2 hd j0 j1 hB2 hR2 hC2 e72 hF2
            refine e_iload_n dX0_tryCopies_11 rfl rfl ?_
            refine e_iconst dX0_tryCopies_12 ?_
            refine e_icmp_gt (tgt := 36) dX0_tryCopies_13 (by decide) (by omega) (by omega) (fun c13 => ?_) (fun c13 => ?_)
            · skip
              refine e_iinc dX0_tryCopies_36 (by decide) rfl rfl rfl rfl ?_
              refine e_goto (tgt := 3) dX0_tryCopies_39 (by decide) ?_
              refine e_mask [true, true, false] ?_
              exact ih3 _ _ (by omega) (by omega) (by omega) (by rw [show 5 * (i + 1 + 2) = 5 * (i + 2) + (j + 2) by omega]; exact hB2) hR2 hC2 e72 hF2
            · skip
              refine e_iload_n dX0_tryCopies_16 rfl rfl ?_
              refine e_if_ne (tgt := 24) dX0_tryCopies_17 (by decide) (by omega) (fun c17 => ?_) (fun c17 => ?_)
              · skip
                try simp only [b2_0, b2_n0] at c17
                refine e_aload_n dX0_tryCopies_24 rfl rfl ?_
                refine e_iload_n dX0_tryCopies_25 rfl rfl ?_
                refine e_iload_n dX0_tryCopies_26 rfl rfl ?_
                refine e_callV (As := [zI _, zI _]) (cb := 1) dX0_tryCopies_27 moX0_tryRectangles mvX0_tryRectangles mlX0_45 (by decide) rfl (show zK h2 (nC c + 1) = 1 + 1 from hR2.1.1.1) rfl (Nat.le_of_ble_eq_true rfl) ⟨by decide, by decide, by decide, by decide⟩ (c_X0_tryCopy hl hR2 hC2 c1 s0 s1 hB2 p p0 p1 e72 i j ⟨by omega, by omega⟩ ⟨by omega, by omega⟩ (by omega)) (fun E h1 q => by cases q.1) (fun v h9 q => ?_)
                obtain ⟨e1, hBn, hRn, e7n, hf9⟩ := q; cases e1
                have hCn : RCo h9 (S 35 c) (screenAt S (S 35 c)) := RCo_at (hf9 _ (nSC (k := 1) c1 s0 s1 (by decide) (by decide)) (nSC c1 s0 s1 (by decide) (by decide))) hC2
                have hFn : ∀ m, m ≠ nC c + 1 → m ≠ nC c + 4 → eqAt m h h9 := fun m m1 m2 => eqAt_tr (hF2 m m1 m2) (hf9 m m1 m2)
                have eA : (5 * (i + 2) + (j + 1 + 2)).toNat = (5 * (i + 2) + (j + 2)).toNat + 1 := by omega
                have eB : (((5 * (i + 2) + (j + 2)).toNat : Nat) : Int) = 5 * (i + 2) + (j + 2) := by omega
                have hBn : CBr h9 (nC c + 1) (cpA (Pc S c) (Rc S c) p b (5 * (i + 2) + (j + 1 + 2)).toNat) := by rw [eA, cpA_s, if_neg (by omega), eB]; exact hBn
                refine e_iinc dX0_tryCopies_30 (by decide) rfl rfl rfl rfl ?_
                refine e_goto (tgt := 11) dX0_tryCopies_33 (by decide) ?_
                exact ih11 _ _ (by omega) (by omega) (by omega) hBn hRn hCn e7n hFn
              · skip
                try simp only [b2_0, b2_n0] at c17
                refine e_iload_n dX0_tryCopies_20 rfl rfl ?_
                refine e_if_eq (tgt := 30) dX0_tryCopies_21 (by decide) (by omega) (fun c21 => ?_) (fun c21 => ?_)
                · skip
                  try simp only [b2_0, b2_n0] at c21
                  have hBn : CBr h2 (nC c + 1) (cpA (Pc S c) (Rc S c) p b (5 * (i + 2) + (j + 1 + 2)).toNat) := by rw [show (5 * (i + 2) + (j + 1 + 2)).toNat = (5 * (i + 2) + (j + 2)).toNat + 1 by omega, cpA_s, if_pos (by omega)]; exact hB2
                  have hRn := hR2
                  have hCn := hC2
                  have e7n := e72
                  have hFn := hF2
                  refine e_iinc dX0_tryCopies_30 (by decide) rfl rfl rfl rfl ?_
                  refine e_goto (tgt := 11) dX0_tryCopies_33 (by decide) ?_
                  exact ih11 _ _ (by omega) (by omega) (by omega) hBn hRn hCn e7n hFn
                · skip
                  try simp only [b2_0, b2_n0] at c21
                  refine e_aload_n dX0_tryCopies_24 rfl rfl ?_
                  refine e_iload_n dX0_tryCopies_25 rfl rfl ?_
                  refine e_iload_n dX0_tryCopies_26 rfl rfl ?_
                  refine e_callV (As := [zI _, zI _]) (cb := 1) dX0_tryCopies_27 moX0_tryRectangles mvX0_tryRectangles mlX0_45 (by decide) rfl (show zK h2 (nC c + 1) = 1 + 1 from hR2.1.1.1) rfl (Nat.le_of_ble_eq_true rfl) ⟨by decide, by decide, by decide, by decide⟩ (c_X0_tryCopy hl hR2 hC2 c1 s0 s1 hB2 p p0 p1 e72 i j ⟨by omega, by omega⟩ ⟨by omega, by omega⟩ (by omega)) (fun E h1 q => by cases q.1) (fun v h9 q => ?_)
                  obtain ⟨e1, hBn, hRn, e7n, hf9⟩ := q; cases e1
                  have hCn : RCo h9 (S 35 c) (screenAt S (S 35 c)) := RCo_at (hf9 _ (nSC (k := 1) c1 s0 s1 (by decide) (by decide)) (nSC c1 s0 s1 (by decide) (by decide))) hC2
                  have hFn : ∀ m, m ≠ nC c + 1 → m ≠ nC c + 4 → eqAt m h h9 := fun m m1 m2 => eqAt_tr (hF2 m m1 m2) (hf9 m m1 m2)
                  have eA : (5 * (i + 2) + (j + 1 + 2)).toNat = (5 * (i + 2) + (j + 2)).toNat + 1 := by omega
                  have eB : (((5 * (i + 2) + (j + 2)).toNat : Nat) : Int) = 5 * (i + 2) + (j + 2) := by omega
                  have hBn : CBr h9 (nC c + 1) (cpA (Pc S c) (Rc S c) p b (5 * (i + 2) + (j + 1 + 2)).toNat) := by rw [eA, cpA_s, if_neg (by omega), eB]; exact hBn
                  refine e_iinc dX0_tryCopies_30 (by decide) rfl rfl rfl rfl ?_
                  refine e_goto (tgt := 11) dX0_tryCopies_33 (by decide) ?_
                  exact ih11 _ _ (by omega) (by omega) (by omega) hBn hRn hCn e7n hFn
        exact lp11 6 (-2) h1 (by decide) (by decide) (by decide) (by rw [show 5 * (i + 2) + (-2 + 2) = 5 * (i + 2) by omega]; exact hB1) hR1 hC1 e71 hF1
  exact lp3 6 (-2) h (by decide) (by decide) (by decide) hB hR hC e7 (fun m _ _ => eqAt_rf)
set_option maxHeartbeats 4000000 in
set_option maxRecDepth 100000 in
theorem c_X0_find {l : Launch} (hl : l.stackTraces = false) {S : S9} {h : zH} {c : Int} (hR : RCh S h c) (hC : RCo h (S 35 c) (screenAt S (S 35 c))) (c1 : c < 6) (s0 : 0 ≤ S 35 c) (s1 : S 35 c < 4) (c0 : 0 ≤ c)  : zC l MX0_find [zR (some (nC c + 1))] h (fun o h' => o = .inl none ∧ RCh S h' c ∧ CFd S h' c ∧ (∀ m, m ≠ nC c + 1 → m ≠ nC c + 4 → eqAt m h h')) := by
  refine zC_of hl rfl rfl (by decide) rfl rfl (Nat.le_of_ble_eq_true rfl) ?_
  have j54 : ∀ (i : Int) (h1 : zH), 0 ≤ i → i ≤ 96 → fst9 (Pc S c) (Rc S c) = i → RCh S h1 c → RCo h1 (S 35 c) (screenAt S (S 35 c)) → zf h1 107 (nC c + 1) = i → CBr h1 (nC c + 1) (0, 0, 0, 0, 0, 0) → (∀ m, m ≠ nC c + 1 → eqAt m h h1) → AW l MX0_find (fun o h' => o = .inl none ∧ RCh S h' c ∧ CFd S h' c ∧ (∀ m, m ≠ nC c + 1 → m ≠ nC c + 4 → eqAt m h h')) 0 0 54 [zR (some (nC c + 1))] [] h1 := by
    intro i h1 i0 i1 hi hR1 hC1 e71 hB1 hF1
    refine e_aload_n dX0_find_54 rfl rfl ?_
    refine e_getI dX0_find_55 flX0_35 rfl (show zK _ (nC c + 1) = 1 + 1 from hR1.1.1.1) e71 (fun r55 => ?_)
    refine e_bipush dX0_find_58 (by decide) ?_
    refine e_icmp_ge (tgt := 77) dX0_find_60 (by decide) (by omega) (by omega) (fun c60 => ?_) (fun c60 => ?_)
    · skip
      refine e_vret dX0_find_77 rfl (by decide) (by decide) ?_
      first
        | exact ⟨rfl, hR4, CFd_ye hi (by omega) hr1 hB3 hB4 (e74.trans e73), fun m m1 m2 => eqAt_tr (eqAt_tr (eqAt_tr (hF1 m m1) (hf2 m m1 m2)) (hf3 m m1 m2)) (hf4 m m1)⟩
        | exact ⟨rfl, hR1, CFd_no hi (by omega) hB1, fun m m1 m2 => hF1 m m1⟩
    · skip
      refine e_aload_n dX0_find_63 rfl rfl ?_
      have hne : S 40 (96 * c + i) ≠ screenAt S (S 35 c) i := by
        have z := fstR_ne (P := Pc S c) (R := Rc S c) 96 (Nat.le_refl _) (by show fst9 (Pc S c) (Rc S c) < 96; omega)
        rw [show fstR (Pc S c) (Rc S c) 96 = i from hi] at z
        exact z
      have hr1 : 1 ≤ run9 (Pc S c) (Rc S c) i := runR_pos hne
      refine e_callV (As := []) (cb := 1) dX0_find_64 moX0_tryCopies mvX0_tryCopies mlX0_42 (by decide) rfl (show zK _ (nC c + 1) = 1 + 1 from hR1.1.1.1) rfl (Nat.le_of_ble_eq_true rfl) ⟨by decide, by decide, by decide, by decide⟩ (c_X0_tryCopies hl hR1 hC1 c1 s0 s1 hB1 i i0 (by omega) e71) (fun E h1 q => by cases q.1) (fun v h9 q => ?_)
      obtain ⟨e1, hB2, hR2, e72, hf2⟩ := q; cases e1
      have hC2 : RCo h9 (S 35 c) (screenAt S (S 35 c)) := RCo_at (hf2 _ (nSC (k := 1) c1 s0 s1 (by decide) (by decide)) (nSC c1 s0 s1 (by decide) (by decide))) hC1
      refine e_aload_n dX0_find_67 rfl rfl ?_
      refine e_iconst dX0_find_68 ?_
      refine e_iconst dX0_find_69 ?_
      refine e_callV (As := [zI _, zI _]) (cb := 1) dX0_find_70 moX0_tryRectangles mvX0_tryRectangles mlX0_45 (by decide) rfl (show zK _ (nC c + 1) = 1 + 1 from hR2.1.1.1) rfl (Nat.le_of_ble_eq_true rfl) ⟨by decide, by decide, by decide, by decide⟩ (c_X0_tryFill hl hR2 hC2 c1 s0 s1 hB2 i i0 (by omega) e72) (fun E h1 q => by cases q.1) (fun v h1 q => ?_)
      obtain ⟨e1, hB3, hR3, e73, hf3⟩ := q; cases e1
      have hC3 : RCo _ (S 35 c) (screenAt S (S 35 c)) := RCo_at (hf3 _ (nSC (k := 1) c1 s0 s1 (by decide) (by decide)) (nSC c1 s0 s1 (by decide) (by decide))) hC2
      refine e_aload_n dX0_find_73 rfl rfl ?_
      refine e_callV (As := []) (cb := 1) dX0_find_74 moX0_tryCells mvX0_tryCells mlX0_49 (by decide) rfl (show zK _ (nC c + 1) = 1 + 1 from hR3.1.1.1) rfl (Nat.le_of_ble_eq_true rfl) ⟨by decide, by decide, by decide, by decide⟩ (c_X0_tryCells hl hR3 hC3 c1 s0 s1 hB3 i i0 (by omega) e73 hne) (fun E h1 q => by cases q.1) (fun v h1 q => ?_)
      obtain ⟨e1, hB4, hf4, hR4, e74⟩ := q; cases e1
      refine e_vret dX0_find_77 rfl (by decide) (by decide) ?_
      first
        | exact ⟨rfl, hR4, CFd_ye hi (by omega) hr1 hB3 hB4 (e74.trans e73), fun m m1 m2 => eqAt_tr (eqAt_tr (eqAt_tr (hF1 m m1) (hf2 m m1 m2)) (hf3 m m1 m2)) (hf4 m m1)⟩
        | exact ⟨rfl, hR1, CFd_no hi (by omega) hB1, fun m m1 m2 => hF1 m m1⟩
  refine e_aload_n dX0_find_0 rfl rfl ?_
  refine e_bipush dX0_find_1 (by decide) ?_
  refine e_putI dX0_find_3 flX0_24 (Or.inl rfl) (by first | decide | exact ⟨by decide, by decide⟩) (show zK _ (nC c + 1) = 1 + 1 from hR.1.1.1) (by omega) ?_
  refine e_aload_n dX0_find_6 rfl rfl ?_
  refine e_iconst dX0_find_7 ?_
  refine e_putI dX0_find_8 flX0_28 (Or.inl rfl) trivial (show zK _ (nC c + 1) = 1 + 1 from hR.1.1.1) (by omega) ?_
  refine e_aload_n dX0_find_11 rfl rfl ?_
  refine e_iconst dX0_find_12 ?_
  refine e_putI dX0_find_13 flX0_32 (Or.inl rfl) trivial (show zK _ (nC c + 1) = 1 + 1 from hR.1.1.1) (by omega) ?_
  refine e_aload_n dX0_find_16 rfl rfl ?_
  refine e_iconst dX0_find_17 ?_
  refine e_putI dX0_find_18 flX0_35 (Or.inl rfl) trivial (show zK _ (nC c + 1) = 1 + 1 from hR.1.1.1) (by omega) ?_
  have lp21 : ∀ (d : Nat) (i : Int) (h1 : zH), (96 - i).toNat < d → 0 ≤ i → i ≤ 96 → fst9 (Pc S c) (Rc S c) = fstR (Pc S c) (Rc S c) (96 - i).toNat → RCh S h1 c → RCo h1 (S 35 c) (screenAt S (S 35 c)) → zf h1 107 (nC c + 1) = i → CBr h1 (nC c + 1) (0, 0, 0, 0, 0, 0) → (∀ m, m ≠ nC c + 1 → eqAt m h h1) → AW l MX0_find (fun o h' => o = .inl none ∧ RCh S h' c ∧ CFd S h' c ∧ (∀ m, m ≠ nC c + 1 → m ≠ nC c + 4 → eqAt m h h')) 0 0 21 [zR (some (nC c + 1))] [] h1 := by
    intro d
    induction d with
    | zero => intro i h1 hd i0 i1 hi hR1 hC1 e71 hB1 hF1; exact absurd hd (by omega)
    | succ d ih =>
      have ih21 := ih
      intro i h1 hd i0 i1 hi hR1 hC1 e71 hB1 hF1
      refine e_aload_n dX0_find_21 rfl rfl ?_
      refine e_getI dX0_find_22 flX0_35 rfl (show zK _ (nC c + 1) = 1 + 1 from hR1.1.1.1) e71 (fun r22 => ?_)
      refine e_bipush dX0_find_25 (by decide) ?_
      refine e_icmp_ge (tgt := 54) dX0_find_27 (by decide) (by omega) (by omega) (fun c27 => ?_) (fun c27 => ?_)
      · skip
        refine j54 i _ i0 i1 ?_ hR1 hC1 e71 hB1 hF1
        rw [hi]
        first
          | (rw [show (96 - i).toNat = 0 by omega]; show (96 : Int) = i; omega)
          | (rw [fstR_at i0 (by omega), if_neg (by show ¬ S 40 (96 * c + i) = screenAt S (S 35 c) i; omega)])
      · skip
        refine e_aload_n dX0_find_30 rfl rfl ?_
        refine e_aload_n dX0_find_31 rfl rfl ?_
        refine e_getI dX0_find_32 flX0_35 rfl (show zK _ (nC c + 1) = 1 + 1 from hR1.1.1.1) e71 (fun r32 => ?_)
        refine e_callV (As := [zI _]) (cb := 1) dX0_find_35 moX0_isBehind mvX0_isBehind mlX0_38 (by decide) rfl (show zK _ (nC c + 1) = 1 + 1 from hR1.1.1.1) rfl (Nat.le_of_ble_eq_true rfl) ⟨by decide, by decide, by decide, by decide⟩ (c_X0_isBehind hl hR1.1 hC1 i i0 (by omega)) (fun E h1 q => by cases q.1) (fun v h9 q => ?_)
        obtain ⟨e1, e2⟩ := q; cases e1; rw [e2]; clear e2 h9
        refine e_if_ne (tgt := 54) dX0_find_38 (by decide) b2_in (fun c38 => ?_) (fun c38 => ?_)
        · skip
          try simp only [b2_0, b2_n0] at c38
          refine j54 i _ i0 i1 ?_ hR1 hC1 e71 hB1 hF1
          rw [hi]
          first
            | (rw [show (96 - i).toNat = 0 by omega]; show (96 : Int) = i; omega)
            | (rw [fstR_at i0 (by omega), if_neg (by show ¬ S 40 (96 * c + i) = screenAt S (S 35 c) i; omega)])
        · skip
          try simp only [b2_0, b2_n0] at c38
          refine e_aload_n dX0_find_41 rfl rfl ?_
          refine e_dup dX0_find_42 rfl ?_
          refine e_getI dX0_find_43 flX0_35 rfl (show zK _ (nC c + 1) = 1 + 1 from hR1.1.1.1) e71 (fun r43 => ?_)
          refine e_iconst dX0_find_46 ?_
          refine e_iadd dX0_find_47 ?_
          refine e_putI dX0_find_48 flX0_35 (Or.inl rfl) trivial (show zK _ (nC c + 1) = 1 + 1 from hR1.1.1.1) (by omega) ?_
          refine e_goto (tgt := 21) dX0_find_51 (by decide) ?_
          exact ih21 _ _ (by omega) (by omega) (by omega) (by rw [hi, fstR_at i0 (by omega), if_pos (by show S 40 (96 * c + i) = screenAt S (S 35 c) i; omega)]) (RCh_sf hR1) (Cq_sf hC1) (show z2 _ _ _ _ _ _ = _ from z2_eq) (CBr_at (fun j hj => z2_ni hj) hB1) (fun m m1 => eqAt_tr (hF1 m m1) (eqAt_sf m1))
  exact lp21 97 0 _ (by decide) (by decide) (by decide) rfl (RCh_sf (RCh_sf (RCh_sf (RCh_sf hR)))) (Cq_sf (Cq_sf (Cq_sf (Cq_sf hC)))) (by simp [s_ff]) (CBr_0 (by simp [s_ff]) (by simp [s_ff]) (by simp [s_ff])) (fun m m1 => eqAt_tr (eqAt_tr (eqAt_tr (eqAt_sf m1) (eqAt_sf m1)) (eqAt_sf m1)) (eqAt_sf m1))
set_option maxHeartbeats 4000000 in
set_option maxRecDepth 100000 in
theorem c_X0_colourAfter {l : Launch} (hl : l.stackTraces = false) {h : zH} {c s : Int} (k0 : zK h (nC c + 1) = 2) (z1 : zr h 101 (nC c + 1) = some (nS s + 4)) (z2 : zr h 102 (nC c + 1) = some (nC c + 3)) (k3 : zK h (nC c + 3) = 100) (n3 : zN h (nC c + 3) = 96) {P R : Int → Int} (hP : ∀ p, 0 ≤ p → p < 96 → za h (nC c + 3) p = P p) (hC : RCo h s R) (b : T6) (p : Int) (f4 : zf h 104 (nC c + 1) = b.1) (f8 : zf h 108 (nC c + 1) = b.2.2.2.2.2) (f7 : zf h 107 (nC c + 1) = p) (p0 : 0 ≤ p) (p1 : p < 96) (q : Int) (q0 : 0 ≤ q) (q1 : q < 96) (hb : b.1 = 99 → 0 ≤ q + b.2.2.2.2.2 ∧ q + b.2.2.2.2.2 < 96) (hzb : zin b.1)  : zC l MX0_colourAfter [zR (some (nC c + 1)), zI q] h (fun o h' => o = .inl (some (zI (colC P R b p q))) ∧ h' = h) := by
  refine zC_of hl rfl rfl (by decide) rfl rfl (Nat.le_of_ble_eq_true rfl) ?_
  refine e_aload_n dX0_colourAfter_0 rfl rfl ?_
  refine e_getI dX0_colourAfter_1 flX0_24 rfl (show zK h (nC c + 1) = 1 + 1 from k0) f4 (fun r1 => ?_)
  refine e_bipush dX0_colourAfter_4 (by decide) ?_
  refine e_icmp_ne (tgt := 21) dX0_colourAfter_6 (by decide) (by omega) (by omega) (fun c6 => ?_) (fun c6 => ?_)
  · skip
    refine e_aload_n dX0_colourAfter_21 rfl rfl ?_
    refine e_getI dX0_colourAfter_22 flX0_24 rfl (show zK h (nC c + 1) = 1 + 1 from k0) f4 (fun r22 => ?_)
    refine e_bipush dX0_colourAfter_25 (by decide) ?_
    refine e_icmp_ne (tgt := 42) dX0_colourAfter_27 (by decide) (by omega) (by omega) (fun c27 => ?_) (fun c27 => ?_)
    · skip
      refine e_aload_n dX0_colourAfter_42 rfl rfl ?_
      refine e_getR dX0_colourAfter_43 flX0_9 rfl (show zK h (nC c + 1) = 1 + 1 from k0) z1 ?_
      refine e_iload_n dX0_colourAfter_46 rfl rfl ?_
      refine e_iald dX0_colourAfter_47 hC.1 q0 (by rw [hC.2.1]; exact q1) (hC.2.2 q q0 q1) (fun r47 => ?_)
      refine e_iret dX0_colourAfter_48 rfl trivial (by decide) (by decide) ?_
      refine ⟨zqe ?_, rfl⟩
      unfold colC
      first
        | (rw [if_pos (by omega)]; done)
        | (rw [if_neg (by omega), if_pos (by omega)]; done)
        | (rw [if_neg (by omega), if_neg (by omega)]; done)
    · skip
      refine e_aload_n dX0_colourAfter_30 rfl rfl ?_
      refine e_getR dX0_colourAfter_31 flX0_9 rfl (show zK h (nC c + 1) = 1 + 1 from k0) z1 ?_
      refine e_aload_n dX0_colourAfter_34 rfl rfl ?_
      refine e_getI dX0_colourAfter_35 flX0_35 rfl (show zK h (nC c + 1) = 1 + 1 from k0) f7 (fun r35 => ?_)
      refine e_iald dX0_colourAfter_38 hC.1 p0 (by rw [hC.2.1]; exact p1) (hC.2.2 p p0 p1) (fun r38 => ?_)
      refine e_goto (tgt := 48) dX0_colourAfter_39 (by decide) ?_
      refine e_iret dX0_colourAfter_48 rfl trivial (by decide) (by decide) ?_
      refine ⟨zqe ?_, rfl⟩
      unfold colC
      first
        | (rw [if_pos (by omega)]; done)
        | (rw [if_neg (by omega), if_pos (by omega)]; done)
        | (rw [if_neg (by omega), if_neg (by omega)]; done)
  · skip
    refine e_aload_n dX0_colourAfter_9 rfl rfl ?_
    refine e_getR dX0_colourAfter_10 flX0_18 rfl (show zK h (nC c + 1) = 1 + 1 from k0) z2 ?_
    refine e_iload_n dX0_colourAfter_13 rfl rfl ?_
    refine e_aload_n dX0_colourAfter_14 rfl rfl ?_
    refine e_getI dX0_colourAfter_15 flX0_74 rfl (show zK h (nC c + 1) = 1 + 1 from k0) f8 (fun r15 => ?_)
    refine e_iadd dX0_colourAfter_18 ?_
    refine e_iald dX0_colourAfter_19 k3 (hb (by omega)).1 (by rw [n3]; exact (hb (by omega)).2) (hP _ (hb (by omega)).1 (hb (by omega)).2) (fun r19 => ?_)
    refine e_iret dX0_colourAfter_20 rfl trivial (by decide) (by decide) ?_
    refine ⟨zqe ?_, rfl⟩
    unfold colC
    first
      | (rw [if_pos (by omega)]; done)
      | (rw [if_neg (by omega), if_pos (by omega)]; done)
      | (rw [if_neg (by omega), if_neg (by omega)]; done)
set_option maxHeartbeats 4000000 in
set_option maxRecDepth 100000 in
theorem c_X0_apply {l : Launch} (hl : l.stackTraces = false) {S : S9} {h : zH} {c : Int} (hR : RCh S h c) (hC : RCo h (S 35 c) (screenAt S (S 35 c))) (c1 : c < 6) (s0 : 0 ≤ S 35 c) (s1 : S 35 c < 4) {b : T6} {p : Int} (p0 : 0 ≤ p) (p1 : p < 96) (hb : okT p b) (hb3 : 3 ≤ b.2.1) (f4 : zf h 104 (nC c + 1) = b.1) (f7 : zf h 107 (nC c + 1) = p) (f8 : zf h 108 (nC c + 1) = b.2.2.2.2.2) (f9 : zf h 109 (nC c + 1) = b.2.2.2.1) (f10 : zf h 110 (nC c + 1) = b.2.2.2.2.1) (hzP : ∀ q, zin (S 40 q)) (hzR : ∀ q, zin (screenAt S (S 35 c) q))  : zC l MX0_apply [zR (some (nC c + 1))] h (fun o h' => o = .inl none ∧ RCh (chgS S c (Pc S c) (Rc S c) b p) h' c ∧ (∀ m, m ≠ nC c + 2 → m ≠ nC c + 3 → eqAt m h h')) := by
  refine zC_of hl rfl rfl (by decide) rfl rfl (Nat.le_of_ble_eq_true rfl) ?_
  obtain ⟨⟨⟨o1, o2, o3⟩, o4, o5, o6⟩, ⟨o7, o8⟩, ⟨o9, o10⟩, o11, o12⟩ := id hR
  have o0 : zK h (nC c + 1) = 1 + 1 := o1
  rcases hb with hb | ⟨-, hkd, hwt, hvl, hcp⟩
  · omega
  have hbb : ∀ y x : Int, b.1 = 99 → 0 ≤ y → y < b.2.2.2.2.1 → 0 ≤ x → x < b.2.2.2.1 → 0 ≤ p + y * 12 + x + b.2.2.2.2.2 ∧ p + y * 12 + x + b.2.2.2.2.2 < 96 := fun y x z y0 y1 x0 x1 => by
    obtain ⟨dx, dy, e1, e2⟩ := hcp z
    omega
  have hzc : ∀ q, 0 ≤ q → q < 96 → (b.1 = 99 → 0 ≤ q + b.2.2.2.2.2 ∧ q + b.2.2.2.2.2 < 96) → zin (colC (Pc S c) (Rc S c) b p q) := fun q _ _ _ => by
    unfold colC
    split
    · exact hzP _
    · split
      · exact hzR _
      · exact hzR _
  refine e_aload_n dX0_apply_0 rfl rfl ?_
  refine e_getI dX0_apply_1 flX0_24 rfl o0 f4 (fun r1 => ?_)
  refine e_bipush dX0_apply_4 (by decide) ?_
  refine e_icmp_ne (tgt := 10) dX0_apply_6 (by decide) (by omega) (by omega) (fun c6 => ?_) (fun c6 => ?_)
  · skip
    refine e_aload_n dX0_apply_10 rfl rfl ?_
    refine e_getR dX0_apply_11 flX0_15 rfl o0 o2 ?_
    refine e_iconst dX0_apply_14 ?_
    refine e_aload_n dX0_apply_15 rfl rfl ?_
    refine e_getR dX0_apply_16 flX0_18 rfl o0 o7 ?_
    refine e_iconst dX0_apply_19 ?_
    refine e_bipush dX0_apply_20 (by decide) ?_
    refine e_copyi dX0_apply_22 mlX0_83 tw_acN tw_acS tw_acI o4 o9 (by decide) (by decide) (by decide) (by rw [o5]; decide) (by rw [o10]; decide) (by decide) (by decide) (by decide) ?_
    refine e_iconst dX0_apply_25 ?_
    refine e_istore_n dX0_apply_26 rfl (by decide) rfl rfl ?_
    have lp27 : ∀ (d : Nat) (y : Int) (h1 : zH), (b.2.2.2.2.1 - y).toNat < d → 0 ≤ y → y ≤ b.2.2.2.2.1 → RCh (chgI S c (Pc S c) (Rc S c) b p (y * b.2.2.2.1)) h1 c → (∀ q, 0 ≤ q → q < 96 → za h1 (nC c + 3) q = (Pc S c) q) → RCo h1 (S 35 c) (Rc S c) → (∀ m, m ≠ nC c + 2 → m ≠ nC c + 3 → eqAt m h h1) → AW l MX0_apply (fun o h' => o = .inl none ∧ RCh (chgS S c (Pc S c) (Rc S c) b p) h' c ∧ (∀ m, m ≠ nC c + 2 → m ≠ nC c + 3 → eqAt m h h')) 0 0 27 [zR (some (nC c + 1)), zI y, zX, zX] [] h1 := by
      intro d
      induction d with
      | zero => intro y h1 hd j0 j1 hR1 hP1 hC1 hF1; exact absurd hd (by omega)
      | succ d ih =>
        have ih27 := ih
        intro y h1 hd j0 j1 hR1 hP1 hC1 hF1
        refine e_iload_n dX0_apply_27 rfl rfl ?_
        refine e_aload_n dX0_apply_28 rfl rfl ?_
        refine e_getI dX0_apply_29 flX0_80 rfl (show zK h1 (nC c + 1) = 1 + 1 from (hF1 _ (by omega) (by omega)).1.trans o1) (((hF1 (nC c + 1) (by omega) (by omega)).2.2.1 110).trans f10) (fun r29 => ?_)
        refine e_icmp_ge (tgt := 80) dX0_apply_32 (by decide) (by omega) (by omega) (fun c32 => ?_) (fun c32 => ?_)
        · skip
          refine e_vret dX0_apply_80 rfl (by decide) (by decide) ?_
          have hR8 : RCh (chgS S c (Pc S c) (Rc S c) b p) h1 c := by
            rw [show y = b.2.2.2.2.1 by omega, Int.mul_comm] at hR1
            exact hR1
          exact ⟨rfl, hR8, hF1⟩
        · skip
          refine e_iconst dX0_apply_35 ?_
          refine e_istore_n dX0_apply_36 rfl (by decide) rfl rfl ?_
          have lp37 : ∀ (d : Nat) (x : Int) (h2 : zH), (b.2.2.2.1 - x).toNat < d → 0 ≤ x → x ≤ b.2.2.2.1 → RCh (chgI S c (Pc S c) (Rc S c) b p (y * b.2.2.2.1 + x)) h2 c → (∀ q, 0 ≤ q → q < 96 → za h2 (nC c + 3) q = (Pc S c) q) → RCo h2 (S 35 c) (Rc S c) → (∀ m, m ≠ nC c + 2 → m ≠ nC c + 3 → eqAt m h h2) → AW l MX0_apply (fun o h' => o = .inl none ∧ RCh (chgS S c (Pc S c) (Rc S c) b p) h' c ∧ (∀ m, m ≠ nC c + 2 → m ≠ nC c + 3 → eqAt m h h')) 0 0 37 [zR (some (nC c + 1)), zI y, zI x, zX] [] h2 := by
            intro d
            induction d with
            | zero => intro x h2 hd i0 i1 hR2 hP2 hC2 hF2; exact absurd hd (by omega)
            | succ d ih =>
              have ih37 := ih
              intro x h2 hd i0 i1 hR2 hP2 hC2 hF2
              have yw : 0 ≤ y * b.2.2.2.1 := Int.mul_nonneg j0 (by omega)
              refine e_iload_n dX0_apply_37 rfl rfl ?_
              refine e_aload_n dX0_apply_38 rfl rfl ?_
              refine e_getI dX0_apply_39 flX0_77 rfl (show zK h2 (nC c + 1) = 1 + 1 from (hF2 _ (by omega) (by omega)).1.trans o1) (((hF2 (nC c + 1) (by omega) (by omega)).2.2.1 109).trans f9) (fun r39 => ?_)
              refine e_icmp_ge (tgt := 74) dX0_apply_42 (by decide) (by omega) (by omega) (fun c42 => ?_) (fun c42 => ?_)
              · skip
                refine e_iinc dX0_apply_74 (by decide) rfl rfl rfl rfl ?_
                refine e_goto (tgt := 27) dX0_apply_77 (by decide) ?_
                refine e_mask [true, true, false, false] ?_
                exact ih27 _ _ (by omega) (by omega) (by omega) (by rw [Int.add_mul, Int.one_mul, ← show x = b.2.2.2.1 by omega]; rw [show x = b.2.2.2.1 by omega] at hR2 ⊢; exact hR2) hP2 hC2 hF2
              · skip
                refine e_aload_n dX0_apply_45 rfl rfl ?_
                refine e_getI dX0_apply_46 flX0_35 rfl (show zK h2 (nC c + 1) = 1 + 1 from (hF2 _ (by omega) (by omega)).1.trans o1) (((hF2 (nC c + 1) (by omega) (by omega)).2.2.1 107).trans f7) (fun r46 => ?_)
                refine e_iload_n dX0_apply_49 rfl rfl ?_
                refine e_bipush dX0_apply_50 (by decide) ?_
                refine e_imul dX0_apply_52 ?_
                refine e_iadd dX0_apply_53 ?_
                refine e_iload_n dX0_apply_54 rfl rfl ?_
                refine e_iadd dX0_apply_55 ?_
                refine e_istore_n dX0_apply_56 rfl (by decide) rfl rfl ?_
                refine e_aload_n dX0_apply_57 rfl rfl ?_
                refine e_getR dX0_apply_58 flX0_15 rfl (show zK h2 (nC c + 1) = 1 + 1 from (hF2 _ (by omega) (by omega)).1.trans o1) (((hF2 (nC c + 1) (by omega) (by omega)).2.2.2.2.1 100).trans o2) ?_
                refine e_iload_n dX0_apply_61 rfl rfl ?_
                refine e_aload_n dX0_apply_62 rfl rfl ?_
                refine e_iload_n dX0_apply_63 rfl rfl ?_
                refine e_callV (As := [zI _]) (cb := 1) dX0_apply_64 moX0_colourAfter mvX0_colourAfter mlX0_89 (by decide) rfl (show zK h2 (nC c + 1) = 1 + 1 from (hF2 _ (by omega) (by omega)).1.trans o1) rfl (Nat.le_of_ble_eq_true rfl) ⟨by decide, by decide, by decide, by decide⟩ (c_X0_colourAfter hl (s := S 35 c) ((hF2 (nC c + 1) (by omega) (by omega)).1.trans o1) (((hF2 (nC c + 1) (by omega) (by omega)).2.2.2.2.1 101).trans o3) (((hF2 (nC c + 1) (by omega) (by omega)).2.2.2.2.1 102).trans o7) hR2.2.2.1.1 hR2.2.2.1.2 hP2 hC2 b p (((hF2 (nC c + 1) (by omega) (by omega)).2.2.1 104).trans f4) (((hF2 (nC c + 1) (by omega) (by omega)).2.2.1 108).trans f8) (((hF2 (nC c + 1) (by omega) (by omega)).2.2.1 107).trans f7) p0 p1 (p + y * 12 + x) (by omega) (by omega) (fun z => hbb y x z j0 (by omega) i0 (by omega)) (by omega)) (fun E h1 q => by cases q.1) (fun v h9 q => ?_)
                obtain ⟨e1, e2⟩ := q; cases e1; rw [e2]; clear e2 h9
                
                refine e_iast dX0_apply_67 hR2.1.2.1 (by omega) (by rw [hR2.1.2.2.1]; omega) (hzc (p + y * 12 + x) (by omega) (by omega) (fun z => hbb y x z j0 (by omega) i0 (by omega))) ?_
                refine e_iinc dX0_apply_68 (by decide) rfl rfl rfl rfl ?_
                refine e_goto (tgt := 37) dX0_apply_71 (by decide) ?_
                refine e_mask [true, true, true, false] ?_
                have dq := div_uniq (w := b.2.2.2.1) (x := x) (y := y) i0 (by omega)
                refine ih37 _ _ (by omega) (by omega) (by omega) (by rw [show y * b.2.2.2.1 + (x + 1) = y * b.2.2.2.1 + x + 1 by omega]; exact RCh_chg ⟨p0, p1⟩ (by omega) (by omega) hvl dq.1 dq.2 (by omega) hR2) (fun q q0 q1 => (z3_nn (by omega)).trans (hP2 q q0 q1)) (Cq_sa c1 s0 s1 (by decide) hC2) (fun m m1 m2 => eqAt_tr (hF2 m m1 m2) (eqAt_sa m1))
          exact lp37 14 0 h1 (by omega) (by omega) (by omega) (by rw [Int.add_zero]; exact hR1) hP1 hC1 hF1
    refine lp27 10 0 _ (by omega) (by omega) (by omega) ?_ (fun q q0 q1 => ?_) (RCo_at (eqAt_saw (nSC c1 s0 s1 (by decide) (by decide))) hC) (fun m m1 m2 => eqAt_saw m2)
    · refine RCh_agf (S := S) (by show (if _ then _ else _) = _; rw [if_neg (by omega)]) (fun j j0 j1 => by rw [show (0 : Int) * b.2.2.2.1 = 0 by omega, chgI_0 (by omega)]) ?_
      exact RCh_3 (fun m m1 => eqAt_saw m1) rfl rfl hR
    · show (if nC c + 3 = nC c + 3 then zcp (za h (nC c + 2)) (za h (nC c + 3)) 0 0 96 q else _) = _
      rw [if_pos rfl]
      unfold zcp
      rw [if_pos (by omega), show 0 + (q - 0) = q by omega]
      exact o6 q q0 q1
  · skip
    exfalso; omega
set_option maxHeartbeats 4000000 in
set_option maxRecDepth 100000 in
theorem c_X0_init {l : Launch} (hl : l.stackTraces = false) {S : S9} {h : zH} {c : Int} (k1 : zK h (nC c + 1) = 2) (k2 : zK h (nC c + 2) = 0) (k3 : zK h (nC c + 3) = 0) (k4 : zK h (nC c + 4) = 0) (hz : ∀ q, 0 ≤ q → q < 96 → S 40 (96 * c + q) = 0)  : zC l MX0_init [zR (some (nC c + 1)), zR (some (nS (S 35 c) + 4))] h (fun o h' => o = .inl none ∧ RCh S h' c ∧ ∀ m, m ≠ nC c + 1 → m ≠ nC c + 2 → m ≠ nC c + 3 → m ≠ nC c + 4 → eqAt m h h') := by
  refine zC_of hl rfl rfl (by decide) rfl rfl (Nat.le_of_ble_eq_true rfl) ?_
  refine e_aload_n dX0_init_0 rfl rfl ?_
  refine e_objInit dX0_init_1 mlX0_3 tw_oiI tw_oiC (by decide) (by decide) ?_
  refine e_aload_n dX0_init_4 rfl rfl ?_
  refine e_aload_n dX0_init_5 rfl rfl ?_
  refine e_putR dX0_init_6 flX0_9 (Or.inr ⟨rfl, rfl, rfl⟩) rfl (show zK _ (nC c + 1) = 1 + 1 from k1) ?_
  refine e_aload_n dX0_init_9 rfl rfl ?_
  refine e_bipush dX0_init_10 (by decide) ?_
  refine e_newa (nC c + 2) 0 96 dX0_init_12 (by decide) rfl tw_arrInt rfl (by decide) (by unfold nC; omega) k2 (by decide) (by decide) ?_
  refine e_putR dX0_init_14 flX0_15 (Or.inr ⟨rfl, rfl, rfl⟩) rfl (by simp [s_ff, s_fr, s_fn, s_rf, s_rr, s_rn, s_Kf, s_Kr, s_Kn, s_Nf, s_Nr, s_Nn, s_af, s_ar, s_an, k1, k2, k3, k4]) ?_
  refine e_aload_n dX0_init_17 rfl rfl ?_
  refine e_bipush dX0_init_18 (by decide) ?_
  refine e_newa (nC c + 3) 0 96 dX0_init_20 (by decide) rfl tw_arrInt rfl (by decide) (by unfold nC; omega) (by simp [s_ff, s_fr, s_fn, s_rf, s_rr, s_rn, s_Kf, s_Kr, s_Kn, s_Nf, s_Nr, s_Nn, s_af, s_ar, s_an, k1, k2, k3, k4]) (by decide) (by decide) ?_
  refine e_putR dX0_init_22 flX0_18 (Or.inr ⟨rfl, rfl, rfl⟩) rfl (by simp [s_ff, s_fr, s_fn, s_rf, s_rr, s_rn, s_Kf, s_Kr, s_Kn, s_Nf, s_Nr, s_Nn, s_af, s_ar, s_an, k1, k2, k3, k4]) ?_
  refine e_aload_n dX0_init_25 rfl rfl ?_
  refine e_bipush dX0_init_26 (by decide) ?_
  refine e_newa (nC c + 4) 0 9 dX0_init_28 (by decide) rfl tw_arrInt rfl (by decide) (by unfold nC; omega) (by simp [s_ff, s_fr, s_fn, s_rf, s_rr, s_rn, s_Kf, s_Kr, s_Kn, s_Nf, s_Nr, s_Nn, s_af, s_ar, s_an, k1, k2, k3, k4]) (by decide) (by decide) ?_
  refine e_putR dX0_init_30 flX0_21 (Or.inr ⟨rfl, rfl, rfl⟩) rfl (by simp [s_ff, s_fr, s_fn, s_rf, s_rr, s_rn, s_Kf, s_Kr, s_Kn, s_Nf, s_Nr, s_Nn, s_af, s_ar, s_an, k1, k2, k3, k4]) ?_
  refine e_aload_n dX0_init_33 rfl rfl ?_
  refine e_bipush dX0_init_34 (by decide) ?_
  refine e_putI dX0_init_36 flX0_24 (Or.inl rfl) (by first | decide | exact ⟨by decide, by decide⟩) (by simp [s_ff, s_fr, s_fn, s_rf, s_rr, s_rn, s_Kf, s_Kr, s_Kn, s_Nf, s_Nr, s_Nn, s_af, s_ar, s_an, k1, k2, k3, k4]) (by omega) ?_
  refine e_vret dX0_init_39 rfl (by decide) (by decide) ?_
  refine ⟨rfl, ?_, fun m m1 m2 m3 m4 => ?_⟩
  · refine ⟨⟨⟨?_, ?_, ?_⟩, ?_, ?_, fun q q0 q1 => ?_⟩, ⟨?_, ?_⟩, ⟨?_, ?_⟩, ?_, ?_⟩
    all_goals simp [s_ff, s_fr, s_fn, s_rf, s_rr, s_rn, s_Kf, s_Kr, s_Kn, s_Nf, s_Nr, s_Nn, s_af, s_ar, s_an, k1, k2, k3, k4]
    rw [hz q q0 q1]
  · exact eqAt_tr (eqAt_tr (eqAt_tr (eqAt_tr (eqAt_tr (eqAt_tr (eqAt_tr (eqAt_sr m1) (eqAt_nw m2)) (eqAt_sr m1)) (eqAt_nw m3)) (eqAt_sr m1)) (eqAt_nw m4)) (eqAt_sr m1)) (eqAt_sf m1)
