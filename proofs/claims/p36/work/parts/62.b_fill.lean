set_option maxHeartbeats 4000000 in
set_option maxRecDepth 100000 in
theorem c_X7_fillPart {l : Launch} (hl : l.stackTraces = false) {S : S9} {h : zH} {w : Int} (hR : RW S h w) (hW : IW1 S w) (x y a b c : Int) (hx : 0 ≤ x ∧ x ≤ 11) (hy : 0 ≤ y ∧ y ≤ 7) (ha : 1 ≤ a ∧ a ≤ 12) (hb : 1 ≤ b ∧ b ≤ 8) (hc : zin c) : zC l MX7_fillPart [zR (some (nW w)), zI x, zI y, zI a, zI b, zI c] h (fun o h' => o = .inl (some (zI (drawN S w x y a b c))) ∧ RW (drawS S w x y a b c) h' w ∧ ∀ m, m ≠ nW w + 1 → eqAt m h h') := by
  refine zC_of hl rfl rfl (by decide) rfl rfl (Nat.le_of_ble_eq_true rfl) ?_
  obtain ⟨k1, f0, f1, r2, f3, f4, f5, f6, f7, f8, f9, k2, n2, cs⟩ := id hR
  obtain ⟨w1, w2, w3, w4, w5, w6, w7, w8, w9, w10⟩ := id hW
  have wa := area_le w5 w6 w7 w8
  obtain ⟨rr, hrr⟩ : ∃ rr, rr = (if S 7 w < x + a then S 7 w else x + a) := ⟨_, rfl⟩
  obtain ⟨bb, hbb⟩ : ∃ bb, bb = (if S 8 w < y + b then S 8 w else y + b) := ⟨_, rfl⟩
  have hr1 : rr ≤ S 7 w ∧ rr ≤ x + a ∧ (rr = S 7 w ∨ rr = x + a) := by rw [hrr]; split <;> omega
  have hb1 : bb ≤ S 8 w ∧ bb ≤ y + b ∧ (bb = S 8 w ∨ bb = y + b) := by rw [hbb]; split <;> omega
  have hmul : ∀ Y : Int, Y ≤ S 8 w → Y * S 7 w ≤ S 7 w * S 8 w := fun Y hY => by rw [Int.mul_comm]; exact Int.mul_le_mul_of_nonneg_left hY (by omega)
  have hmul1 : ∀ Y : Int, (Y + 1) * S 7 w = Y * S 7 w + S 7 w := fun Y => by rw [Int.add_mul, Int.one_mul]
  have hmul0 : ∀ Y : Int, 0 ≤ Y → 0 ≤ Y * S 7 w := fun Y hY => Int.mul_nonneg hY (by omega)
  refine e_iconst dX7_fillPart_0 ?_
  refine e_istore dX7_fillPart_1 (by decide) rfl rfl ?_
  refine e_iload_n dX7_fillPart_3 rfl rfl ?_
  refine e_iload_n dX7_fillPart_4 rfl rfl ?_
  refine e_iadd dX7_fillPart_5 ?_
  refine e_aload_n dX7_fillPart_6 rfl rfl ?_
  refine e_getI dX7_fillPart_7 flX7_18 rfl (by assumption) (by assumption) (fun r7 => ?_)
  refine e_min dX7_fillPart_10 mlX7_35 tw_mnS tw_maI tw_mnC (by decide) (by decide) (by decide) (by decide) (by decide) (by omega) (by omega) ?_
  refine e_istore dX7_fillPart_13 (by decide) rfl rfl ?_
  refine e_iload_n dX7_fillPart_15 rfl rfl ?_
  refine e_iload dX7_fillPart_16 rfl ?_
  refine e_iadd dX7_fillPart_18 ?_
  refine e_aload_n dX7_fillPart_19 rfl rfl ?_
  refine e_getI dX7_fillPart_20 flX7_21 rfl (by assumption) (by assumption) (fun r20 => ?_)
  refine e_min dX7_fillPart_23 mlX7_35 tw_mnS tw_maI tw_mnC (by decide) (by decide) (by decide) (by decide) (by decide) (by omega) (by omega) ?_
  refine e_istore dX7_fillPart_26 (by decide) rfl rfl ?_
  refine e_iload_n dX7_fillPart_28 rfl rfl ?_
  rw [← hrr, ← hbb]
  refine e_istore dX7_fillPart_29 (by decide) rfl rfl ?_
  have lp31 : ∀ (d : Nat) (Y v : Int) (h1 : zH), (bb - Y).toNat < d → y ≤ Y → Y ≤ 20 → v = sg (fun k => b2 (inR (S 7 w) x y a b k ∧ S 14 (96 * w + k) ≠ c)) (mn Y (S 8 w) * S 7 w).toNat → 0 ≤ v → v ≤ 96 → RW (drawI S w x y a b c (mn Y (S 8 w) * S 7 w)) h1 w → (∀ m, m ≠ nW w + 1 → eqAt m h h1) → AW l MX7_fillPart (fun o h' => o = .inl (some (zI (drawN S w x y a b c))) ∧ RW (drawS S w x y a b c) h' w ∧ ∀ m, m ≠ nW w + 1 → eqAt m h h') 0 0 31 [zR (some (nW w)), zI x, zI y, zI a, zI b, zI c, zI v, zI rr, zI bb, zI Y, zX, zX] [] h1 := by
    intro d
    induction d with
    | zero => intro Y v h1 hd Y0 Y9 hv v0 v9 hR1 hF1; exact absurd hd (by omega)
    | succ d ih =>
      have ih31 := ih
      intro Y v h1 hd Y0 Y9 hv v0 v9 hR1 hF1
      have my := mn_le (a := Y) (b := S 8 w)
      have hm9 : 0 ≤ mn Y (S 8 w) * S 7 w := hmul0 _ (by omega)
      refine e_iload dX7_fillPart_31 rfl ?_
      refine e_iload dX7_fillPart_33 rfl ?_
      refine e_icmp_ge (tgt := 96) dX7_fillPart_35 (by decide) (by omega) (by omega) (fun c35 => ?_) (fun c35 => ?_)
      · skip
        refine e_iload dX7_fillPart_96 rfl ?_
        refine e_iret dX7_fillPart_98 rfl trivial (by decide) (by decide) ?_
        exact ⟨zqe (by rw [hv]; exact Eq.symm (sg_skip hm9 (by rcases my.2.2 with z | z <;> rw [z] <;> exact hmul _ (by omega)) (fun k z1 z2 => b2_f (fun z => by have := row_ge (W := S 7 w) w5 z1; have := row_lt (W := S 7 w) (Y := S 8 w) w5 (by rw [Int.mul_comm]; exact z2); omega)))), RW_eqS (fun f j => drawI_skip (by rcases my.2.2 with z | z <;> rw [z] <;> exact hmul _ (by omega)) (fun k z1 z2 z => by have := row_ge (W := S 7 w) w5 z1; have := row_lt (W := S 7 w) (Y := S 8 w) w5 (by rw [Int.mul_comm]; exact z2); omega) f j) hR1, hF1⟩
      · skip
        have my3 : mn Y (S 8 w) = Y := by unfold mn; rw [if_pos (by omega)]
        rw [my3] at hv hR1
        refine e_iload_n dX7_fillPart_38 rfl rfl ?_
        refine e_istore dX7_fillPart_39 (by decide) rfl rfl ?_
        have lp41 : ∀ (d : Nat) (X v : Int) (h1 : zH), (rr - X).toNat < d → x ≤ X → X ≤ 40 → v = sg (fun k => b2 (inR (S 7 w) x y a b k ∧ S 14 (96 * w + k) ≠ c)) (Y * S 7 w + mn X (S 7 w)).toNat → 0 ≤ v → v ≤ 96 → RW (drawI S w x y a b c (Y * S 7 w + mn X (S 7 w))) h1 w → (∀ m, m ≠ nW w + 1 → eqAt m h h1) → AW l MX7_fillPart (fun o h' => o = .inl (some (zI (drawN S w x y a b c))) ∧ RW (drawS S w x y a b c) h' w ∧ ∀ m, m ≠ nW w + 1 → eqAt m h h') 0 0 41 [zR (some (nW w)), zI x, zI y, zI a, zI b, zI c, zI v, zI rr, zI bb, zI Y, zI X, zX] [] h1 := by
          intro d
          induction d with
          | zero => intro X v h1 hd X0 X9 hv v0 v9 hR1 hF1; exact absurd hd (by omega)
          | succ d ih =>
            have ih41 := ih
            intro X v h1 hd X0 X9 hv v0 v9 hR1 hF1
            have mx := mn_le (a := X) (b := S 7 w)
            obtain ⟨l1, l0, l2, l3, l4, l5, l6, l7, l8, l9, l10, l11, l12, lcs⟩ := id hR1
            have hm0 := hmul0 Y (by omega)
            have hm1 := hmul1 Y
            have hm2 := hmul (Y + 1) (by omega)
            have d7 : drawI S w x y a b c (Y * S 7 w + mn X (S 7 w)) 7 w = S 7 w := if_neg (by omega)
            have d8 : drawI S w x y a b c (Y * S 7 w + mn X (S 7 w)) 8 w = S 8 w := if_neg (by omega)
            rw [d7, d8] at l12 lcs
            rw [d7] at l0
            refine e_iload dX7_fillPart_41 rfl ?_
            refine e_iload dX7_fillPart_43 rfl ?_
            refine e_icmp_ge (tgt := 90) dX7_fillPart_45 (by decide) (by omega) (by omega) (fun c45 => ?_) (fun c45 => ?_)
            · skip
              refine e_iinc dX7_fillPart_90 (by decide) rfl rfl rfl rfl ?_
              refine e_goto (tgt := 31) dX7_fillPart_93 (by decide) ?_
              have my2 : mn (Y + 1) (S 8 w) = Y + 1 := by unfold mn; rw [if_pos (by omega)]
              have sk : ∀ k, Y * S 7 w + mn X (S 7 w) ≤ k → k < (Y + 1) * S 7 w → ¬ inR (S 7 w) x y a b k := fun k z1 z2 => by
                have hr := row_of (W := S 7 w) (Y := Y) (k := k) w5 (by omega) z2
                have := mn_le (a := X) (b := S 7 w)
                omega
              have hm3 := hmul1 Y
              have mx := mn_le (a := X) (b := S 7 w)
              refine e_mask [true, true, true, true, true, true, true, true, true, true, false, false] ?_
              refine ih31 _ _ _ (by omega) (by omega) (by omega) ?_ v0 v9 ?_ hF1
              · rw [my2, hv, ← sg_skip (n' := (Y + 1) * S 7 w) (by omega) (by omega) (fun k z1 z2 => b2_f (fun z => sk k z1 z2 z.1))]
              · rw [my2]
                exact RW_eqS (fun f j => drawI_skip (by omega) sk f j) hR1
            · skip
              have mx2 : mn X (S 7 w) = X := by unfold mn; rw [if_pos (by omega)]
              have mx3 : mn (X + 1) (S 7 w) = X + 1 := by unfold mn; rw [if_pos (by omega)]
              have hrw := row_of (W := S 7 w) (Y := Y) (k := Y * S 7 w + X) w5 (by omega) (by omega)
              have hin : inR (S 7 w) x y a b (Y * S 7 w + X) := by omega
              have hv8 := hv
              have hR8 := hR1
              rw [mx2] at hv8 hR8 lcs
              have e14 : drawI S w x y a b c (Y * S 7 w + X) 14 (96 * w + (Y * S 7 w + X)) = S 14 (96 * w + (Y * S 7 w + X)) := if_neg (by omega)
              have lcv := (lcs (Y * S 7 w + X) (by omega) (by omega)).trans e14
              have cc := sg_in1 (f := (fun k => b2 (inR (S 7 w) x y a b k ∧ S 14 (96 * w + k) ≠ c))) (fun _ _ => b2_le) (Y * S 7 w + X) (by omega)
              refine e_iload dX7_fillPart_48 rfl ?_
              refine e_aload_n dX7_fillPart_50 rfl rfl ?_
              refine e_getI dX7_fillPart_51 flX7_18 rfl (by assumption) (by assumption) (fun r51 => ?_)
              refine e_imul dX7_fillPart_54 ?_
              refine e_iload dX7_fillPart_55 rfl ?_
              refine e_iadd dX7_fillPart_57 ?_
              refine e_istore dX7_fillPart_58 (by decide) rfl rfl ?_
              refine e_aload_n dX7_fillPart_60 rfl rfl ?_
              refine e_getR dX7_fillPart_61 flX7_24 rfl (by assumption) (by assumption) ?_
              refine e_iload dX7_fillPart_64 rfl ?_
              refine e_iald dX7_fillPart_66 (show zK h1 (nW w + 1) = 100 from l11) (by omega) (by rw [l12]; omega) lcv (fun r66 => ?_)
              refine e_iload dX7_fillPart_67 rfl ?_
              refine e_icmp_eq (tgt := 84) dX7_fillPart_69 (by decide) (by omega) (by omega) (fun c69 => ?_) (fun c69 => ?_)
              · skip
                refine e_iinc dX7_fillPart_84 (by decide) rfl rfl rfl rfl ?_
                refine e_goto (tgt := 41) dX7_fillPart_87 (by decide) ?_
                refine e_mask [true, true, true, true, true, true, true, true, true, true, true, false] ?_
                refine ih41 _ _ _ (by omega) (by omega) (by omega) ?_ (by omega) (by omega) ?_ ?_
                · rw [mx3, show Y * S 7 w + (X + 1) = Y * S 7 w + X + 1 by omega, sg_s (by omega), ← hv8]
                  first
                    | (rw [b2_t (by omega)]; done)
                    | (rw [b2_f (by omega), Int.add_zero]; done)
                · rw [mx3, show Y * S 7 w + (X + 1) = Y * S 7 w + X + 1 by omega]
                  first
                    | exact RW_eqS (fun f j => drawI_st ⟨by omega, hin⟩) (RW_cell hR8 (by omega))
                    | exact RW_eqS (fun f j => drawI_eq ⟨by omega, hin⟩ (by omega)) hR8
                · first
                    | exact fun m m1 => eqAt_tr (hF1 m m1) (eqAt_sa m1)
                    | exact hF1
              · skip
                refine e_aload_n dX7_fillPart_72 rfl rfl ?_
                refine e_getR dX7_fillPart_73 flX7_24 rfl (by assumption) (by assumption) ?_
                refine e_iload dX7_fillPart_76 rfl ?_
                refine e_iload dX7_fillPart_78 rfl ?_
                refine e_iast dX7_fillPart_80 (show zK h1 (nW w + 1) = 100 from l11) (by omega) (by rw [l12]; omega) (by omega) ?_
                refine e_iinc dX7_fillPart_81 (by decide) rfl rfl rfl rfl ?_
                refine e_iinc dX7_fillPart_84 (by decide) rfl rfl rfl rfl ?_
                refine e_goto (tgt := 41) dX7_fillPart_87 (by decide) ?_
                refine e_mask [true, true, true, true, true, true, true, true, true, true, true, false] ?_
                refine ih41 _ _ _ (by omega) (by omega) (by omega) ?_ (by omega) (by omega) ?_ ?_
                · rw [mx3, show Y * S 7 w + (X + 1) = Y * S 7 w + X + 1 by omega, sg_s (by omega), ← hv8]
                  first
                    | (rw [b2_t (by omega)]; done)
                    | (rw [b2_f (by omega), Int.add_zero]; done)
                · rw [mx3, show Y * S 7 w + (X + 1) = Y * S 7 w + X + 1 by omega]
                  first
                    | exact RW_eqS (fun f j => drawI_st ⟨by omega, hin⟩) (RW_cell hR8 (by omega))
                    | exact RW_eqS (fun f j => drawI_eq ⟨by omega, hin⟩ (by omega)) hR8
                · first
                    | exact fun m m1 => eqAt_tr (hF1 m m1) (eqAt_sa m1)
                    | exact hF1
        refine lp41 41 x _ _ (by omega) (by omega) (by omega) ?_ v0 v9 ?_ hF1
        · rw [hv]
          exact (sg_skip (hmul0 Y (by omega)) (by have := mn_le (a := x) (b := S 7 w); omega) (fun k z1 z2 => b2_f (fun z => by have h7 := hmul1 Y; have h8 := mn_le (a := x) (b := S 7 w); have hr := row_of (W := S 7 w) (Y := Y) (k := k) w5 z1 (by omega); omega))).symm
        · exact RW_eqS (fun f j => drawI_skip (by have := mn_le (a := x) (b := S 7 w); omega) (fun k z1 z2 z => by have h7 := hmul1 Y; have h8 := mn_le (a := x) (b := S 7 w); have hr := row_of (W := S 7 w) (Y := Y) (k := k) w5 z1 (by omega); omega) f j) hR1
  exact lp31 20 y 0 _ (by omega) (by omega) (by omega) (by rw [sg_skip (n := 0) (Int.le_refl 0) (hmul0 _ (by have := mn_le (a := y) (b := S 8 w); omega)) (fun k z1 z2 => b2_f (fun z => by have := row_lt (W := S 7 w) w5 z2; have := mn_le (a := y) (b := S 8 w); omega))]; rfl) (by decide) (by decide) (RW_eqS (fun f j => (drawI_skip (n := 0) (hmul0 _ (by have := mn_le (a := y) (b := S 8 w); omega)) (fun k z1 z2 z => by have := row_lt (W := S 7 w) w5 z2; have := mn_le (a := y) (b := S 8 w); omega) f j).trans (if_neg (by omega))) hR) (fun m _ => eqAt_rf)
