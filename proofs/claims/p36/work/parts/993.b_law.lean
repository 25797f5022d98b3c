/-! p36: the law, a turn's branches, the rest -/
set_option maxHeartbeats 4000000 in
set_option maxRecDepth 100000 in
/-- a window is moved, twice -/
theorem br_move {l : Launch} (hl : l.stackTraces = false) (hG : GMore l) {L : Nat} {f : Nat → Int32} (hL : L ≤ 260) {S : S9} {h : zH} {B ns nc turn at9 what q c w : Int} {k n : Nat} (hk : k + 100 ≤ 600192) (hn : n + 13000 ≤ 7295879) (hB9 : B ≤ 1000000) (hJ : LJ S B ns nc h) (hq : 0 ≤ q ∧ q < ns) (hc : 0 ≤ c ∧ c < nc) (hw : 0 ≤ w ∧ w < 6 ∧ (S 4 q ≠ 0 → w < S 4 q)) (ha : 0 ≤ at9 ∧ at9 ≤ 330) (K : ∀ S' h', LJ S' (B + 20000) ns nc h' → AW l (MLW L f) QW (k + 100) (n + 13000) 1230 [zY, zR (some 2), zI ns, zI nc, zR (some 6), zR (some 7), zR (some 99), zL (S' 3 0), zX, zI turn, zI at9, zX, zX, zI c, zX, zX, zX, zX, zX, zX] [] h') : AW l (MLW L f) QW k n 457 [zY, zR (some 2), zI ns, zI nc, zR (some 6), zR (some 7), zR (some 99), zL (S 3 0), zX, zI turn, zI at9, zI what, zI q, zI c, zI w, zX, zX, zX, zX, zX] [] h := by
  obtain ⟨hR, hI4, hbt, hB0, ⟨⟨hb1, hb2⟩, ⟨r1, r2, r3⟩, ⟨w1, w2, w3⟩, d1, d2⟩, hd⟩ := id hJ
  have hI := II_mk hI4 hbt
  have hN : IN S := hI4.1.1
  obtain ⟨n1, n2, n3, n4, n5⟩ := id hN
  have n5q := n5 q (by omega) (by omega)
  have hqS : isS S q := ⟨by omega, by omega⟩
  have hcC : isC S c := ⟨by omega, by omega⟩
  have hqz : zin q := ⟨by omega, by omega⟩
  have hcz : zin c := ⟨by omega, by omega⟩
  have hwz : zin w := ⟨by omega, by omega⟩
  obtain ⟨hq0, hq1⟩ := hq
  obtain ⟨hc0, hc1⟩ := hc
  obtain ⟨hw0, hw6, hw9⟩ := hw
  obtain ⟨ha0, ha1⟩ := ha
  have y4_17 := smv_in (L := L) (f := f) (k := at9 + 4) (n := 17) (by omega)
  have y5_13 := smv_in (L := L) (f := f) (k := at9 + 5) (n := 13) (by omega)
  by_cases hw4 : isWn S q w
  · skip
    refine e_aload_n dL_law_457 rfl rfl ?_
    refine e_iload dL_law_458 rfl ?_
    refine e_iload dL_law_460 rfl ?_
    refine e_aloadY dL_law_462 rfl rfl ?_
    refine e_iload dL_law_463 rfl ?_
    refine e_iconst dL_law_465 ?_
    refine e_iadd dL_law_466 ?_
    refine e_bipush dL_law_467 (by decide) ?_
    refine e_callSY (Yc := MLsome L f) (As := [zY, zI _, zI _]) dL_law_469 moL_some msL_some mlL_146 rfl rfl rfl (Nat.le_of_ble_eq_true rfl) ⟨Nat.le_of_ble_eq_true rfl, Nat.le_of_ble_eq_true rfl, by show k + 0 ≤ 600192; omega, by show n + 0 ≤ 7295879; omega⟩ (c_L_some hl hL _ _ (by omega) (by omega) (by omega) (by omega)) (fun E h9 q => by cases q.1) (fun v9 h9 q => ?_)
    obtain ⟨e1, e2⟩ := q
    cases e1
    rw [e2]
    clear e2 h9
    refine e_iconst dL_law_472 ?_
    refine e_isub dL_law_473 ?_
    refine e_aloadY dL_law_474 rfl rfl ?_
    refine e_iload dL_law_475 rfl ?_
    refine e_iconst dL_law_477 ?_
    refine e_iadd dL_law_478 ?_
    refine e_bipush dL_law_479 (by decide) ?_
    refine e_callSY (Yc := MLsome L f) (As := [zY, zI _, zI _]) dL_law_481 moL_some msL_some mlL_146 rfl rfl rfl (Nat.le_of_ble_eq_true rfl) ⟨Nat.le_of_ble_eq_true rfl, Nat.le_of_ble_eq_true rfl, by show k + 0 ≤ 600192; omega, by show n + 0 ≤ 7295879; omega⟩ (c_L_some hl hL _ _ (by omega) (by omega) (by omega) (by omega)) (fun E h9 q => by cases q.1) (fun v9 h9 q => ?_)
    obtain ⟨e1, e2⟩ := q
    cases e1
    rw [e2]
    clear e2 h9
    refine e_iconst dL_law_484 ?_
    refine e_isub dL_law_485 ?_
    refine e_callH (As := [zR _, zI _, zI _, zI _, zI _]) dL_law_486 hoL_moveWindow mlL_162 rfl (Nat.le_of_ble_eq_true rfl) ⟨Nat.le_of_ble_eq_true rfl, Nat.le_of_ble_eq_true rfl, by show k + 4 ≤ 600192; omega, by show n + 24 ≤ 7295879; omega⟩ (c_L_moveWindow hl hR hI q hqz w hwz (smv L f (at9 + 4) 17 - 5) ⟨by omega, by omega⟩ (smv L f (at9 + 5) 13 - 5) ⟨by omega, by omega⟩ 0 (Eq.symm (Eq.trans (if_neg (nn hw4)) (if_neg (nn ⟨⟨by omega, by omega⟩, by omega, by omega⟩))))) (fun E h9 q => (QI_inl q).elim) (fun v9 h9 q => ?_)
    obtain ⟨e1, qf, q3⟩ := q
    cases e1
    rw [lw2_0]
    have hR2 := (q3.resolve_right (fun z => by omega)).2
    have hgot := mov_in (S := S) (S' := movS S (6 * q + w) (smv L f (at9 + 4) 17 - 5) (smv L f (at9 + 5) 13 - 5)) (s := q)
    have eS : ∀ f9, (f9 ≠ 5 ∧ f9 ≠ 6) → ∀ j, movS S (6 * q + w) (smv L f (at9 + 4) 17 - 5) (smv L f (at9 + 5) 13 - 5) f9 j = S f9 j := fun f9 hf j => movS_f hf
    have hI42 := I4_moveWindow (w := 6 * q + w) (x := smv L f (at9 + 4) 17 - 5) (y := smv L f (at9 + 5) 13 - 5) hI4 ⟨by omega, by omega⟩ ⟨by omega, by omega⟩
    have hbt2 := IBt_mov (w := 6 * q + w) (x := smv L f (at9 + 4) 17 - 5) (y := smv L f (at9 + 5) 13 - 5) hbt
    have hag := mov_again (S := S) (w := 6 * q + w) (x := smv L f (at9 + 4) 17 - 5) (y := smv L f (at9 + 5) 13 - 5) (s := q)
    generalize movN S (movS S (6 * q + w) (smv L f (at9 + 4) 17 - 5) (smv L f (at9 + 5) 13 - 5)) q = got at hgot ⊢
    have hid := mov_id (S := S) (w := 6 * q + w) (x := smv L f (at9 + 4) 17 - 5) (y := smv L f (at9 + 5) 13 - 5)
    generalize hS2 : movS S (6 * q + w) (smv L f (at9 + 4) 17 - 5) (smv L f (at9 + 5) 13 - 5) = S2 at hR2 eS hI42 hbt2 hag hid
    have hI2 := II_mk hI42 hbt2
    have hw5 : isWn S2 q w := by unfold isWn; rw [eS 1 (by decide), eS 4 (by decide), eS 10 (by decide)]; exact hw4
    refine e_istore dL_law_489 (Nat.le_of_ble_eq_true rfl) rfl rfl ?_
    refine e_iload dL_law_491 rfl ?_
    refine e_bipush dL_law_493 (by decide) ?_
    refine e_icmp_gt (tgt := 538) dL_law_495 (by decide) (by omega) (by omega) (fun c495 => by exfalso; omega) (fun c495 => ?_)
    refine e_iload dL_law_498 rfl ?_
    refine e_if_lt (tgt := 540) dL_law_500 (by decide) (by omega) (fun c500 => by exfalso; omega) (fun c500 => ?_)
    refine e_aload_n dL_law_503 rfl rfl ?_
    refine e_iload dL_law_504 rfl ?_
    refine e_iload dL_law_506 rfl ?_
    refine e_aloadY dL_law_508 rfl rfl ?_
    refine e_iload dL_law_509 rfl ?_
    refine e_iconst dL_law_511 ?_
    refine e_iadd dL_law_512 ?_
    refine e_bipush dL_law_513 (by decide) ?_
    refine e_callSY (Yc := MLsome L f) (As := [zY, zI _, zI _]) dL_law_515 moL_some msL_some mlL_146 rfl rfl rfl (Nat.le_of_ble_eq_true rfl) ⟨Nat.le_of_ble_eq_true rfl, Nat.le_of_ble_eq_true rfl, by show k + 4 ≤ 600192; omega, by show n + 24 ≤ 7295879; omega⟩ (c_L_some hl hL _ _ (by omega) (by omega) (by omega) (by omega)) (fun E h9 q => by cases q.1) (fun v9 h9 q => ?_)
    obtain ⟨e1, e2⟩ := q
    cases e1
    rw [e2]
    clear e2 h9
    refine e_iconst dL_law_518 ?_
    refine e_isub dL_law_519 ?_
    refine e_aloadY dL_law_520 rfl rfl ?_
    refine e_iload dL_law_521 rfl ?_
    refine e_iconst dL_law_523 ?_
    refine e_iadd dL_law_524 ?_
    refine e_bipush dL_law_525 (by decide) ?_
    refine e_callSY (Yc := MLsome L f) (As := [zY, zI _, zI _]) dL_law_527 moL_some msL_some mlL_146 rfl rfl rfl (Nat.le_of_ble_eq_true rfl) ⟨Nat.le_of_ble_eq_true rfl, Nat.le_of_ble_eq_true rfl, by show k + 4 ≤ 600192; omega, by show n + 24 ≤ 7295879; omega⟩ (c_L_some hl hL _ _ (by omega) (by omega) (by omega) (by omega)) (fun E h9 q => by cases q.1) (fun v9 h9 q => ?_)
    obtain ⟨e1, e2⟩ := q
    cases e1
    rw [e2]
    clear e2 h9
    refine e_iconst dL_law_530 ?_
    refine e_isub dL_law_531 ?_
    refine e_callH (As := [zR _, zI _, zI _, zI _, zI _]) dL_law_532 hoL_moveWindow mlL_162 rfl (Nat.le_of_ble_eq_true rfl) ⟨Nat.le_of_ble_eq_true rfl, Nat.le_of_ble_eq_true rfl, by show k + 8 ≤ 600192; omega, by show n + 48 ≤ 7295879; omega⟩ (c_L_moveWindow hl hR2 hI2 q hqz w hwz (smv L f (at9 + 4) 17 - 5) ⟨by omega, by omega⟩ (smv L f (at9 + 5) 13 - 5) ⟨by omega, by omega⟩ 0 (Eq.symm (Eq.trans (if_neg (nn hw5)) (if_neg (nn ⟨⟨by omega, by omega⟩, by omega, by omega⟩))))) (fun E h9 q => (QI_inl q).elim) (fun v9 h9 q => ?_)
    obtain ⟨e1, qf2, q3⟩ := q
    cases e1
    rw [lw2_0, hag]
    have hR3 := (q3.resolve_right (fun z => by omega)).2
    rw [hid] at hR3
    refine e_if_eq (tgt := 540) dL_law_535 (by decide) (by decide) (fun c535 => ?_) (fun c535 => by exfalso; exact c535 rfl)
    refine e_goto (tgt := 1230) dL_law_540 (by decide) ?_
    have hJ2 := (LJ_st hJ (FQ_tr qf qf2) hR3 (I4_le (show B ≤ B + 20000 by omega) hI42) (hbt2) (by omega) (fun f9 hf j => eS f9 (by omega) j) (HD_ag (fun f9 hf j => eS f9 (by omega) j) hd))
    refine e_mask [true, true, true, true, true, true, true, true, true, true, true, false, false, true, false, false, false, false, false, false] ?_
    refine e_wid (k + 100) (n + 13000) (by show k + 8 ≤ _; omega) (by show n + 48 ≤ _; omega) ?_
    have z9 := K _ _ hJ2
    rw [eS 3 (by decide) 0] at z9
    exact z9
  · skip
    refine e_aload_n dL_law_457 rfl rfl ?_
    refine e_iload dL_law_458 rfl ?_
    refine e_iload dL_law_460 rfl ?_
    refine e_aloadY dL_law_462 rfl rfl ?_
    refine e_iload dL_law_463 rfl ?_
    refine e_iconst dL_law_465 ?_
    refine e_iadd dL_law_466 ?_
    refine e_bipush dL_law_467 (by decide) ?_
    refine e_callSY (Yc := MLsome L f) (As := [zY, zI _, zI _]) dL_law_469 moL_some msL_some mlL_146 rfl rfl rfl (Nat.le_of_ble_eq_true rfl) ⟨Nat.le_of_ble_eq_true rfl, Nat.le_of_ble_eq_true rfl, by show k + 0 ≤ 600192; omega, by show n + 0 ≤ 7295879; omega⟩ (c_L_some hl hL _ _ (by omega) (by omega) (by omega) (by omega)) (fun E h9 q => by cases q.1) (fun v9 h9 q => ?_)
    obtain ⟨e1, e2⟩ := q
    cases e1
    rw [e2]
    clear e2 h9
    refine e_iconst dL_law_472 ?_
    refine e_isub dL_law_473 ?_
    refine e_aloadY dL_law_474 rfl rfl ?_
    refine e_iload dL_law_475 rfl ?_
    refine e_iconst dL_law_477 ?_
    refine e_iadd dL_law_478 ?_
    refine e_bipush dL_law_479 (by decide) ?_
    refine e_callSY (Yc := MLsome L f) (As := [zY, zI _, zI _]) dL_law_481 moL_some msL_some mlL_146 rfl rfl rfl (Nat.le_of_ble_eq_true rfl) ⟨Nat.le_of_ble_eq_true rfl, Nat.le_of_ble_eq_true rfl, by show k + 0 ≤ 600192; omega, by show n + 0 ≤ 7295879; omega⟩ (c_L_some hl hL _ _ (by omega) (by omega) (by omega) (by omega)) (fun E h9 q => by cases q.1) (fun v9 h9 q => ?_)
    obtain ⟨e1, e2⟩ := q
    cases e1
    rw [e2]
    clear e2 h9
    refine e_iconst dL_law_484 ?_
    refine e_isub dL_law_485 ?_
    refine e_callH (As := [zR _, zI _, zI _, zI _, zI _]) dL_law_486 hoL_moveWindow mlL_162 rfl (Nat.le_of_ble_eq_true rfl) ⟨Nat.le_of_ble_eq_true rfl, Nat.le_of_ble_eq_true rfl, by show k + 4 ≤ 600192; omega, by show n + 24 ≤ 7295879; omega⟩ (c_L_moveWindow hl hR hI q hqz w hwz (smv L f (at9 + 4) 17 - 5) ⟨by omega, by omega⟩ (smv L f (at9 + 5) 13 - 5) ⟨by omega, by omega⟩ 1 (Eq.symm (if_pos hw4))) (fun E h9 q => (QI_inl q).elim) (fun v9 h9 q => ?_)
    obtain ⟨e1, qf, q3⟩ := q
    cases e1
    rw [lw2_1]
    have hR2 := (q3.resolve_left (fun z => by omega)).2
    refine e_istore dL_law_489 (Nat.le_of_ble_eq_true rfl) rfl rfl ?_
    refine e_iload dL_law_491 rfl ?_
    refine e_bipush dL_law_493 (by decide) ?_
    refine e_icmp_gt (tgt := 538) dL_law_495 (by decide) (by omega) (by omega) (fun c495 => by exfalso; omega) (fun c495 => ?_)
    refine e_iload dL_law_498 rfl ?_
    refine e_if_lt (tgt := 540) dL_law_500 (by decide) (by omega) (fun c500 => ?_) (fun c500 => by exfalso; omega)
    refine e_goto (tgt := 1230) dL_law_540 (by decide) ?_
    refine e_mask [true, true, true, true, true, true, true, true, true, true, true, false, false, true, false, false, false, false, false, false] ?_
    refine e_wid (k + 100) (n + 13000) (by show k + 4 ≤ _; omega) (by show n + 24 ≤ _; omega) ?_
    exact K S _ (LJ_st hJ qf hR2 (I4_le (show B ≤ B + 20000 by omega) hI4) hbt (by omega) (fun f9 hf j => rfl) hd)
set_option maxHeartbeats 4000000 in
set_option maxRecDepth 100000 in
/-- a window is closed, raised, shown or marked -/
theorem br_is {l : Launch} (hl : l.stackTraces = false) (hG : GMore l) {L : Nat} {f : Nat → Int32} (hL : L ≤ 260) {S : S9} {h : zH} {B ns nc turn at9 what q c w : Int} {k n : Nat} (hk : k + 100 ≤ 600192) (hn : n + 13000 ≤ 7295879) (hB9 : B ≤ 1000000) (hJ : LJ S B ns nc h) (hq : 0 ≤ q ∧ q < ns) (hc : 0 ≤ c ∧ c < nc) (hw : 0 ≤ w ∧ w < 6 ∧ (S 4 q ≠ 0 → w < S 4 q)) (ha : 0 ≤ at9 ∧ at9 ≤ 330) (K : ∀ S' h', LJ S' (B + 20000) ns nc h' → AW l (MLW L f) QW (k + 100) (n + 13000) 1230 [zY, zR (some 2), zI ns, zI nc, zR (some 6), zR (some 7), zR (some 99), zL (S' 3 0), zX, zI turn, zI at9, zX, zX, zI c, zX, zX, zX, zX, zX, zX] [] h') : AW l (MLW L f) QW k n 550 [zY, zR (some 2), zI ns, zI nc, zR (some 6), zR (some 7), zR (some 99), zL (S 3 0), zX, zI turn, zI at9, zI what, zI q, zI c, zI w, zX, zX, zX, zX, zX] [] h := by
  obtain ⟨hR, hI4, hbt, hB0, ⟨⟨hb1, hb2⟩, ⟨r1, r2, r3⟩, ⟨w1, w2, w3⟩, d1, d2⟩, hd⟩ := id hJ
  have hI := II_mk hI4 hbt
  have hN : IN S := hI4.1.1
  obtain ⟨n1, n2, n3, n4, n5⟩ := id hN
  have n5q := n5 q (by omega) (by omega)
  have hqS : isS S q := ⟨by omega, by omega⟩
  have hcC : isC S c := ⟨by omega, by omega⟩
  have hqz : zin q := ⟨by omega, by omega⟩
  have hcz : zin c := ⟨by omega, by omega⟩
  have hwz : zin w := ⟨by omega, by omega⟩
  obtain ⟨hq0, hq1⟩ := hq
  obtain ⟨hc0, hc1⟩ := hc
  obtain ⟨hw0, hw6, hw9⟩ := hw
  obtain ⟨ha0, ha1⟩ := ha
  have y4_4 := smv_in (L := L) (f := f) (k := at9 + 4) (n := 4) (by omega)
  have y5_2 := smv_in (L := L) (f := f) (k := at9 + 5) (n := 2) (by omega)
  have y6_2 := smv_in (L := L) (f := f) (k := at9 + 6) (n := 2) (by omega)
  refine e_crsm hl hL (at9 := at9) rfl rfl ⟨by omega, by omega⟩ (by omega) (by omega) ?_
  obtain ⟨v9, hv9⟩ : ∃ v9 : Int, v9 = smv L f (at9 + 4) 4 := ⟨_, rfl⟩
  rw [← hv9] at y4_4 ⊢
  obtain ⟨p9, hpp⟩ : ∃ p, isWn S q w → posO S q (6 * q + w) p := by
    by_cases y : isWn S q w
    · obtain ⟨p, hp⟩ := posO_ex hI4.2.1 (s := q) (w := 6 * q + w) ⟨by omega, by omega, by omega, by have := y.2; omega⟩ y.2.2.2
      exact ⟨p, fun _ => hp⟩
    · exact ⟨0, fun z => absurd z y⟩
  clear hv9
  rcases (show v9 = 0 ∨ v9 = 1 ∨ v9 = 2 ∨ v9 = 3 by omega) with rfl | rfl | rfl | rfl
  · skip
    show AW l (MLW L f) QW k n 564 _ [zI 99] h
    by_cases hw4 : isWn S q w
    · skip
      have J600 : ∀ u : Int, (u = 0 ∨ u = 1) → AW l (MLW L f) QW k n 600 [zY, zR (some 2), zI ns, zI nc, zR (some 6), zR (some 7), zR (some 99), zL (S 3 0), zX, zI turn, zI at9, zI what, zI q, zI c, zI w, zI 99, zX, zX, zX, zX] [zI u, zI (smv L f (at9 + 5) 2), zI w, zI q, zI 99, zR (some 2)] h := by
        intro u hu
        refine e_callH (As := [zR _, zI _, zI _, zI _, zI _, zI _]) dL_law_600 hoL_is mlL_172 rfl (Nat.le_of_ble_eq_true rfl) ⟨Nat.le_of_ble_eq_true rfl, Nat.le_of_ble_eq_true rfl, by show k + 17 ≤ 600192; omega, by show n + 136 ≤ 7295879; omega⟩ (c_L_is_c hl hR hI q hqz w hwz p9 hpp _ u ⟨by omega, by omega⟩ hu 0 (Eq.symm (if_neg (nn hw4)))) (fun E h9 q => (QI_inl q).elim) (fun v9 h9 q => ?_)
        obtain ⟨e1, qf, q3⟩ := q
        cases e1
        rw [lw1_0]
        have hR2 := (q3.resolve_right (fun z => by omega)).2
        obtain ⟨got, hgot⟩ : ∃ got : Int, got = (if (S 11 (6 * q + w)) = 0 then (0 : Int) else 1) := ⟨_, rfl⟩
        rw [← hgot]
        have hg1 : 0 ≤ got ∧ got ≤ 1 := by rw [hgot]; split <;> omega
        clear hgot
        refine e_istore dL_law_603 (Nat.le_of_ble_eq_true rfl) rfl rfl ?_
        refine e_iload dL_law_605 rfl ?_
        refine e_if_lt (tgt := 632) dL_law_607 (by decide) (by omega) (fun c607 => by exfalso; omega) (fun c607 => ?_)
        have hp9 := hpp hw4
        have hI42 := I4_close hI4 (s := q) (w := 6 * q + w) (by omega) (by omega) ⟨by omega, by omega, by omega, by have := hw4.2; omega⟩ hp9
        have hbt2 := IBt_clo (s := q) (w := 6 * q + w) (p := p9) hbt
        have eS : ∀ f9, (f9 ≠ 10 ∧ f9 ≠ 15 ∧ f9 ≠ 16) → ∀ j, cloS S q (6 * q + w) p9 f9 j = S f9 j := fun f9 hf j => cloS_f hf
        have e10 : cloS S q (6 * q + w) p9 10 (6 * q + w) = 0 := by rw [cloS_10, if_pos rfl]
        generalize cloS S q (6 * q + w) p9 = S2 at hR2 hI42 hbt2 eS e10
        have hI2 := II_mk hI42 hbt2
        have hw5 : ¬ isWn S2 q w := fun z => by have := z.2.2.2; omega
        refine e_iload dL_law_610 rfl ?_
        refine e_bipush dL_law_612 (by decide) ?_
        refine e_icmp_ne (tgt := 632) dL_law_614 (by decide) (by omega) (by omega) (fun c614 => ?_) (fun c614 => by exfalso; omega)
        refine e_iload dL_law_632 rfl ?_
        refine e_if_lt (tgt := 663) dL_law_634 (by decide) (by omega) (fun c634 => by exfalso; omega) (fun c634 => ?_)
        refine e_iload dL_law_637 rfl ?_
        refine e_bipush dL_law_639 (by decide) ?_
        refine e_icmp_ne (tgt := 663) dL_law_641 (by decide) (by omega) (by omega) (fun c641 => by exfalso; exact c641 rfl) (fun c641 => ?_)
        refine e_aload_n dL_law_644 rfl rfl ?_
        refine e_bipush dL_law_645 (by decide) ?_
        refine e_iload dL_law_647 rfl ?_
        refine e_iload dL_law_649 rfl ?_
        refine e_iconst dL_law_651 ?_
        refine e_iconst dL_law_652 ?_
        refine e_callH (As := [zR _, zI _, zI _, zI _, zI _, zI _]) dL_law_653 hoL_is mlL_172 rfl (Nat.le_of_ble_eq_true rfl) ⟨Nat.le_of_ble_eq_true rfl, Nat.le_of_ble_eq_true rfl, by show k + 34 ≤ 600192; omega, by show n + 272 ≤ 7295879; omega⟩ (c_L_is_c hl hR2 hI2 q hqz w hwz 0 (fun z => absurd z hw5) 0 1 (by decide) (Or.inr rfl) 1 (Eq.symm (if_pos hw5))) (fun E h9 q => (QI_inl q).elim) (fun v9 h9 q => ?_)
        obtain ⟨e1, qf2, q3⟩ := q
        cases e1
        rw [lw1_1]
        have hR3 := (q3.resolve_left (fun z => by omega)).2
        refine e_ldcI (z := -2500000) dL_law_656 ctL_28 ?_
        refine e_icmp_eq (tgt := 663) dL_law_658 (by decide) (by omega) (by omega) (fun c658 => ?_) (fun c658 => by exfalso; exact c658 rfl)
        refine e_goto (tgt := 1230) dL_law_663 (by decide) ?_
        have hJ2 := (LJ_st hJ (FQ_tr qf qf2) hR3 (I4_le (show B ≤ B + 20000 by omega) hI42) (hbt2) (by omega) (fun f9 hf j => eS f9 (by omega) j) (HD_ag (fun f9 hf j => eS f9 (by omega) j) hd))
        refine e_mask [true, true, true, true, true, true, true, true, true, true, true, false, false, true, false, false, false, false, false, false] ?_
        refine e_wid (k + 100) (n + 13000) (by show k + 34 ≤ _; omega) (by show n + 272 ≤ _; omega) ?_
        have z9 := K _ _ hJ2
        rw [eS 3 (by decide) 0] at z9
        exact z9
      refine e_istore dL_law_564 (Nat.le_of_ble_eq_true rfl) rfl rfl ?_
      refine e_aload_n dL_law_566 rfl rfl ?_
      refine e_iload dL_law_567 rfl ?_
      refine e_iload dL_law_569 rfl ?_
      refine e_iload dL_law_571 rfl ?_
      refine e_aloadY dL_law_573 rfl rfl ?_
      refine e_iload dL_law_574 rfl ?_
      refine e_iconst dL_law_576 ?_
      refine e_iadd dL_law_577 ?_
      refine e_iconst dL_law_578 ?_
      refine e_callSY (Yc := MLsome L f) (As := [zY, zI _, zI _]) dL_law_579 moL_some msL_some mlL_146 rfl rfl rfl (Nat.le_of_ble_eq_true rfl) ⟨Nat.le_of_ble_eq_true rfl, Nat.le_of_ble_eq_true rfl, by show k + 0 ≤ 600192; omega, by show n + 0 ≤ 7295879; omega⟩ (c_L_some hl hL _ _ (by omega) (by omega) (by omega) (by omega)) (fun E h9 q => by cases q.1) (fun v9 h9 q => ?_)
      obtain ⟨e1, e2⟩ := q
      cases e1
      rw [e2]
      clear e2 h9
      refine e_aloadY dL_law_582 rfl rfl ?_
      refine e_iload dL_law_583 rfl ?_
      refine e_bipush dL_law_585 (by decide) ?_
      refine e_iadd dL_law_587 ?_
      refine e_iconst dL_law_588 ?_
      refine e_callSY (Yc := MLsome L f) (As := [zY, zI _, zI _]) dL_law_589 moL_some msL_some mlL_146 rfl rfl rfl (Nat.le_of_ble_eq_true rfl) ⟨Nat.le_of_ble_eq_true rfl, Nat.le_of_ble_eq_true rfl, by show k + 0 ≤ 600192; omega, by show n + 0 ≤ 7295879; omega⟩ (c_L_some hl hL _ _ (by omega) (by omega) (by omega) (by omega)) (fun E h9 q => by cases q.1) (fun v9 h9 q => ?_)
      obtain ⟨e1, e2⟩ := q
      cases e1
      rw [e2]
      clear e2 h9
      refine e_if_ne (tgt := 599) dL_law_592 (by decide) (by omega) (fun c592 => ?_) (fun c592 => ?_)
      · skip
        refine e_iconst dL_law_599 ?_
        exact J600 0 (Or.inl rfl)
      · skip
        refine e_iconst dL_law_595 ?_
        refine e_goto (tgt := 600) dL_law_596 (by decide) ?_
        exact J600 1 (Or.inr rfl)
    · skip
      have J600 : ∀ u : Int, (u = 0 ∨ u = 1) → AW l (MLW L f) QW k n 600 [zY, zR (some 2), zI ns, zI nc, zR (some 6), zR (some 7), zR (some 99), zL (S 3 0), zX, zI turn, zI at9, zI what, zI q, zI c, zI w, zI 99, zX, zX, zX, zX] [zI u, zI (smv L f (at9 + 5) 2), zI w, zI q, zI 99, zR (some 2)] h := by
        intro u hu
        refine e_callH (As := [zR _, zI _, zI _, zI _, zI _, zI _]) dL_law_600 hoL_is mlL_172 rfl (Nat.le_of_ble_eq_true rfl) ⟨Nat.le_of_ble_eq_true rfl, Nat.le_of_ble_eq_true rfl, by show k + 17 ≤ 600192; omega, by show n + 136 ≤ 7295879; omega⟩ (c_L_is_c hl hR hI q hqz w hwz p9 hpp _ u ⟨by omega, by omega⟩ hu 1 (Eq.symm (if_pos hw4))) (fun E h9 q => (QI_inl q).elim) (fun v9 h9 q => ?_)
        obtain ⟨e1, qf, q3⟩ := q
        cases e1
        rw [lw1_1]
        have hR2 := (q3.resolve_left (fun z => by omega)).2
        refine e_istore dL_law_603 (Nat.le_of_ble_eq_true rfl) rfl rfl ?_
        refine e_iload dL_law_605 rfl ?_
        refine e_if_lt (tgt := 632) dL_law_607 (by decide) (by omega) (fun c607 => ?_) (fun c607 => by exfalso; omega)
        refine e_iload dL_law_632 rfl ?_
        refine e_if_lt (tgt := 663) dL_law_634 (by decide) (by omega) (fun c634 => ?_) (fun c634 => by exfalso; omega)
        refine e_goto (tgt := 1230) dL_law_663 (by decide) ?_
        refine e_mask [true, true, true, true, true, true, true, true, true, true, true, false, false, true, false, false, false, false, false, false] ?_
        refine e_wid (k + 100) (n + 13000) (by show k + 17 ≤ _; omega) (by show n + 136 ≤ _; omega) ?_
        exact K S _ (LJ_st hJ qf hR2 (I4_le (show B ≤ B + 20000 by omega) hI4) hbt (by omega) (fun f9 hf j => rfl) hd)
      refine e_istore dL_law_564 (Nat.le_of_ble_eq_true rfl) rfl rfl ?_
      refine e_aload_n dL_law_566 rfl rfl ?_
      refine e_iload dL_law_567 rfl ?_
      refine e_iload dL_law_569 rfl ?_
      refine e_iload dL_law_571 rfl ?_
      refine e_aloadY dL_law_573 rfl rfl ?_
      refine e_iload dL_law_574 rfl ?_
      refine e_iconst dL_law_576 ?_
      refine e_iadd dL_law_577 ?_
      refine e_iconst dL_law_578 ?_
      refine e_callSY (Yc := MLsome L f) (As := [zY, zI _, zI _]) dL_law_579 moL_some msL_some mlL_146 rfl rfl rfl (Nat.le_of_ble_eq_true rfl) ⟨Nat.le_of_ble_eq_true rfl, Nat.le_of_ble_eq_true rfl, by show k + 0 ≤ 600192; omega, by show n + 0 ≤ 7295879; omega⟩ (c_L_some hl hL _ _ (by omega) (by omega) (by omega) (by omega)) (fun E h9 q => by cases q.1) (fun v9 h9 q => ?_)
      obtain ⟨e1, e2⟩ := q
      cases e1
      rw [e2]
      clear e2 h9
      refine e_aloadY dL_law_582 rfl rfl ?_
      refine e_iload dL_law_583 rfl ?_
      refine e_bipush dL_law_585 (by decide) ?_
      refine e_iadd dL_law_587 ?_
      refine e_iconst dL_law_588 ?_
      refine e_callSY (Yc := MLsome L f) (As := [zY, zI _, zI _]) dL_law_589 moL_some msL_some mlL_146 rfl rfl rfl (Nat.le_of_ble_eq_true rfl) ⟨Nat.le_of_ble_eq_true rfl, Nat.le_of_ble_eq_true rfl, by show k + 0 ≤ 600192; omega, by show n + 0 ≤ 7295879; omega⟩ (c_L_some hl hL _ _ (by omega) (by omega) (by omega) (by omega)) (fun E h9 q => by cases q.1) (fun v9 h9 q => ?_)
      obtain ⟨e1, e2⟩ := q
      cases e1
      rw [e2]
      clear e2 h9
      refine e_if_ne (tgt := 599) dL_law_592 (by decide) (by omega) (fun c592 => ?_) (fun c592 => ?_)
      · skip
        refine e_iconst dL_law_599 ?_
        exact J600 0 (Or.inl rfl)
      · skip
        refine e_iconst dL_law_595 ?_
        refine e_goto (tgt := 600) dL_law_596 (by decide) ?_
        exact J600 1 (Or.inr rfl)
  · skip
    show AW l (MLW L f) QW k n 564 _ [zI 114] h
    by_cases hw4 : isWn S q w
    · skip
      have J600 : ∀ u : Int, (u = 0 ∨ u = 1) → AW l (MLW L f) QW k n 600 [zY, zR (some 2), zI ns, zI nc, zR (some 6), zR (some 7), zR (some 99), zL (S 3 0), zX, zI turn, zI at9, zI what, zI q, zI c, zI w, zI 114, zX, zX, zX, zX] [zI u, zI (smv L f (at9 + 5) 2), zI w, zI q, zI 114, zR (some 2)] h := by
        intro u hu
        refine e_callH (As := [zR _, zI _, zI _, zI _, zI _, zI _]) dL_law_600 hoL_is mlL_172 rfl (Nat.le_of_ble_eq_true rfl) ⟨Nat.le_of_ble_eq_true rfl, Nat.le_of_ble_eq_true rfl, by show k + 17 ≤ 600192; omega, by show n + 136 ≤ 7295879; omega⟩ (c_L_is_r hl hR hI q hqz w hwz p9 hpp _ u ⟨by omega, by omega⟩ hu 0 (Eq.symm (if_neg (nn hw4)))) (fun E h9 q => (QI_inl q).elim) (fun v9 h9 q => ?_)
        obtain ⟨e1, qf, q3⟩ := q
        cases e1
        rw [lw1_0]
        have hR2 := (q3.resolve_right (fun z => by omega)).2
        obtain ⟨got, hgot⟩ : ∃ got : Int, got = (if (b2 (S 15 (6 * q + S 16 q - 1) ≠ 6 * q + w)) = 0 then (0 : Int) else 1) := ⟨_, rfl⟩
        rw [← hgot]
        have hg1 : 0 ≤ got ∧ got ≤ 1 := by rw [hgot]; split <;> omega
        clear hgot
        refine e_istore dL_law_603 (Nat.le_of_ble_eq_true rfl) rfl rfl ?_
        refine e_iload dL_law_605 rfl ?_
        refine e_if_lt (tgt := 632) dL_law_607 (by decide) (by omega) (fun c607 => by exfalso; omega) (fun c607 => ?_)
        have hp9 := hpp hw4
        have hI42 := I4_raise hI4 (s := q) (w := 6 * q + w) (by omega) (by omega) ⟨by omega, by omega, by omega, by have := hw4.2; omega⟩ hw4.2.2.2 hp9
        have hbt2 := IBt_rai (s := q) (w := 6 * q + w) (p := p9) hbt
        have eS : ∀ f9, (f9 ≠ 15 ∧ f9 ≠ 16) → ∀ j, raiS S q (6 * q + w) p9 f9 j = S f9 j := fun f9 hf j => raiS_f hf
        have hag := rai_again (S := S) (s := q) (w := 6 * q + w) (p := p9)
        generalize raiS S q (6 * q + w) p9 = S2 at hR2 hI42 hbt2 eS hag
        have hI2 := II_mk hI42 hbt2
        have hw5 : isWn S2 q w := by unfold isWn; rw [eS 1 (by decide), eS 4 (by decide), eS 10 (by decide)]; exact hw4
        obtain ⟨p8, hp8⟩ : ∃ p, isWn S2 q w → posO S2 q (6 * q + w) p := by
          obtain ⟨p, hp⟩ := posO_ex hI42.2.1 (s := q) (w := 6 * q + w) ⟨by omega, by omega, by omega, by rw [eS 4 (by decide)]; have := hw4.2; omega⟩ (by rw [eS 10 (by decide)]; exact hw4.2.2.2)
          exact ⟨p, fun _ => hp⟩
        refine e_iload dL_law_610 rfl ?_
        refine e_bipush dL_law_612 (by decide) ?_
        refine e_icmp_ne (tgt := 632) dL_law_614 (by decide) (by omega) (by omega) (fun c614 => by exfalso; exact c614 rfl) (fun c614 => ?_)
        refine e_aload_n dL_law_617 rfl rfl ?_
        refine e_bipush dL_law_618 (by decide) ?_
        refine e_iload dL_law_620 rfl ?_
        refine e_iload dL_law_622 rfl ?_
        refine e_iconst dL_law_624 ?_
        refine e_iconst dL_law_625 ?_
        refine e_callH (As := [zR _, zI _, zI _, zI _, zI _, zI _]) dL_law_626 hoL_is mlL_172 rfl (Nat.le_of_ble_eq_true rfl) ⟨Nat.le_of_ble_eq_true rfl, Nat.le_of_ble_eq_true rfl, by show k + 34 ≤ 600192; omega, by show n + 272 ≤ 7295879; omega⟩ (c_L_is_r hl hR2 hI2 q hqz w hwz p8 hp8 0 1 (by decide) (Or.inr rfl) 0 (Eq.symm (if_neg (nn hw5)))) (fun E h9 q => (QI_inl q).elim) (fun v9 h9 q => ?_)
        obtain ⟨e1, qf2, q3⟩ := q
        cases e1
        rw [lw1_0, hag]
        have hR3 := (q3.resolve_right (fun z => by omega)).2
        rw [if_pos (rfl : (0 : Int) = 0)]
        refine e_if_ne (tgt := 661) dL_law_629 (by decide) (by decide) (fun c629 => by exfalso; exact c629 rfl) (fun c629 => ?_)
        refine e_iload dL_law_632 rfl ?_
        refine e_if_lt (tgt := 663) dL_law_634 (by decide) (by omega) (fun c634 => by exfalso; omega) (fun c634 => ?_)
        refine e_iload dL_law_637 rfl ?_
        refine e_bipush dL_law_639 (by decide) ?_
        refine e_icmp_ne (tgt := 663) dL_law_641 (by decide) (by omega) (by omega) (fun c641 => ?_) (fun c641 => by exfalso; omega)
        refine e_goto (tgt := 1230) dL_law_663 (by decide) ?_
        obtain ⟨eS3, hI43, hbt3⟩ : (∀ f9, (f9 ≠ 15 ∧ f9 ≠ 16) → ∀ j, raiS S2 q (6 * q + w) p8 f9 j = S f9 j) ∧ I4 (raiS S2 q (6 * q + w) p8) B ∧ IBt (raiS S2 q (6 * q + w) p8) := ⟨fun f9 hf j => (raiS_f hf).trans (eS f9 hf j), I4_raise hI42 (by omega) (by omega) ⟨by omega, by omega, by omega, by rw [eS 4 (by decide)]; have := hw4.2; omega⟩ (by rw [eS 10 (by decide)]; exact hw4.2.2.2) (hp8 hw5), IBt_rai hbt2⟩
        have hJ2 := (LJ_st hJ (FQ_tr qf qf2) hR3 (I4_le (show B ≤ B + 20000 by omega) hI43) (hbt3) (by omega) (fun f9 hf j => eS3 f9 (by omega) j) (HD_ag (fun f9 hf j => eS3 f9 (by omega) j) hd))
        refine e_mask [true, true, true, true, true, true, true, true, true, true, true, false, false, true, false, false, false, false, false, false] ?_
        refine e_wid (k + 100) (n + 13000) (by show k + 34 ≤ _; omega) (by show n + 272 ≤ _; omega) ?_
        have z9 := K _ _ hJ2
        rw [eS3 3 (by decide) 0] at z9
        exact z9
      refine e_istore dL_law_564 (Nat.le_of_ble_eq_true rfl) rfl rfl ?_
      refine e_aload_n dL_law_566 rfl rfl ?_
      refine e_iload dL_law_567 rfl ?_
      refine e_iload dL_law_569 rfl ?_
      refine e_iload dL_law_571 rfl ?_
      refine e_aloadY dL_law_573 rfl rfl ?_
      refine e_iload dL_law_574 rfl ?_
      refine e_iconst dL_law_576 ?_
      refine e_iadd dL_law_577 ?_
      refine e_iconst dL_law_578 ?_
      refine e_callSY (Yc := MLsome L f) (As := [zY, zI _, zI _]) dL_law_579 moL_some msL_some mlL_146 rfl rfl rfl (Nat.le_of_ble_eq_true rfl) ⟨Nat.le_of_ble_eq_true rfl, Nat.le_of_ble_eq_true rfl, by show k + 0 ≤ 600192; omega, by show n + 0 ≤ 7295879; omega⟩ (c_L_some hl hL _ _ (by omega) (by omega) (by omega) (by omega)) (fun E h9 q => by cases q.1) (fun v9 h9 q => ?_)
      obtain ⟨e1, e2⟩ := q
      cases e1
      rw [e2]
      clear e2 h9
      refine e_aloadY dL_law_582 rfl rfl ?_
      refine e_iload dL_law_583 rfl ?_
      refine e_bipush dL_law_585 (by decide) ?_
      refine e_iadd dL_law_587 ?_
      refine e_iconst dL_law_588 ?_
      refine e_callSY (Yc := MLsome L f) (As := [zY, zI _, zI _]) dL_law_589 moL_some msL_some mlL_146 rfl rfl rfl (Nat.le_of_ble_eq_true rfl) ⟨Nat.le_of_ble_eq_true rfl, Nat.le_of_ble_eq_true rfl, by show k + 0 ≤ 600192; omega, by show n + 0 ≤ 7295879; omega⟩ (c_L_some hl hL _ _ (by omega) (by omega) (by omega) (by omega)) (fun E h9 q => by cases q.1) (fun v9 h9 q => ?_)
      obtain ⟨e1, e2⟩ := q
      cases e1
      rw [e2]
      clear e2 h9
      refine e_if_ne (tgt := 599) dL_law_592 (by decide) (by omega) (fun c592 => ?_) (fun c592 => ?_)
      · skip
        refine e_iconst dL_law_599 ?_
        exact J600 0 (Or.inl rfl)
      · skip
        refine e_iconst dL_law_595 ?_
        refine e_goto (tgt := 600) dL_law_596 (by decide) ?_
        exact J600 1 (Or.inr rfl)
    · skip
      have J600 : ∀ u : Int, (u = 0 ∨ u = 1) → AW l (MLW L f) QW k n 600 [zY, zR (some 2), zI ns, zI nc, zR (some 6), zR (some 7), zR (some 99), zL (S 3 0), zX, zI turn, zI at9, zI what, zI q, zI c, zI w, zI 114, zX, zX, zX, zX] [zI u, zI (smv L f (at9 + 5) 2), zI w, zI q, zI 114, zR (some 2)] h := by
        intro u hu
        refine e_callH (As := [zR _, zI _, zI _, zI _, zI _, zI _]) dL_law_600 hoL_is mlL_172 rfl (Nat.le_of_ble_eq_true rfl) ⟨Nat.le_of_ble_eq_true rfl, Nat.le_of_ble_eq_true rfl, by show k + 17 ≤ 600192; omega, by show n + 136 ≤ 7295879; omega⟩ (c_L_is_r hl hR hI q hqz w hwz p9 hpp _ u ⟨by omega, by omega⟩ hu 1 (Eq.symm (if_pos hw4))) (fun E h9 q => (QI_inl q).elim) (fun v9 h9 q => ?_)
        obtain ⟨e1, qf, q3⟩ := q
        cases e1
        rw [lw1_1]
        have hR2 := (q3.resolve_left (fun z => by omega)).2
        refine e_istore dL_law_603 (Nat.le_of_ble_eq_true rfl) rfl rfl ?_
        refine e_iload dL_law_605 rfl ?_
        refine e_if_lt (tgt := 632) dL_law_607 (by decide) (by omega) (fun c607 => ?_) (fun c607 => by exfalso; omega)
        refine e_iload dL_law_632 rfl ?_
        refine e_if_lt (tgt := 663) dL_law_634 (by decide) (by omega) (fun c634 => ?_) (fun c634 => by exfalso; omega)
        refine e_goto (tgt := 1230) dL_law_663 (by decide) ?_
        refine e_mask [true, true, true, true, true, true, true, true, true, true, true, false, false, true, false, false, false, false, false, false] ?_
        refine e_wid (k + 100) (n + 13000) (by show k + 17 ≤ _; omega) (by show n + 136 ≤ _; omega) ?_
        exact K S _ (LJ_st hJ qf hR2 (I4_le (show B ≤ B + 20000 by omega) hI4) hbt (by omega) (fun f9 hf j => rfl) hd)
      refine e_istore dL_law_564 (Nat.le_of_ble_eq_true rfl) rfl rfl ?_
      refine e_aload_n dL_law_566 rfl rfl ?_
      refine e_iload dL_law_567 rfl ?_
      refine e_iload dL_law_569 rfl ?_
      refine e_iload dL_law_571 rfl ?_
      refine e_aloadY dL_law_573 rfl rfl ?_
      refine e_iload dL_law_574 rfl ?_
      refine e_iconst dL_law_576 ?_
      refine e_iadd dL_law_577 ?_
      refine e_iconst dL_law_578 ?_
      refine e_callSY (Yc := MLsome L f) (As := [zY, zI _, zI _]) dL_law_579 moL_some msL_some mlL_146 rfl rfl rfl (Nat.le_of_ble_eq_true rfl) ⟨Nat.le_of_ble_eq_true rfl, Nat.le_of_ble_eq_true rfl, by show k + 0 ≤ 600192; omega, by show n + 0 ≤ 7295879; omega⟩ (c_L_some hl hL _ _ (by omega) (by omega) (by omega) (by omega)) (fun E h9 q => by cases q.1) (fun v9 h9 q => ?_)
      obtain ⟨e1, e2⟩ := q
      cases e1
      rw [e2]
      clear e2 h9
      refine e_aloadY dL_law_582 rfl rfl ?_
      refine e_iload dL_law_583 rfl ?_
      refine e_bipush dL_law_585 (by decide) ?_
      refine e_iadd dL_law_587 ?_
      refine e_iconst dL_law_588 ?_
      refine e_callSY (Yc := MLsome L f) (As := [zY, zI _, zI _]) dL_law_589 moL_some msL_some mlL_146 rfl rfl rfl (Nat.le_of_ble_eq_true rfl) ⟨Nat.le_of_ble_eq_true rfl, Nat.le_of_ble_eq_true rfl, by show k + 0 ≤ 600192; omega, by show n + 0 ≤ 7295879; omega⟩ (c_L_some hl hL _ _ (by omega) (by omega) (by omega) (by omega)) (fun E h9 q => by cases q.1) (fun v9 h9 q => ?_)
      obtain ⟨e1, e2⟩ := q
      cases e1
      rw [e2]
      clear e2 h9
      refine e_if_ne (tgt := 599) dL_law_592 (by decide) (by omega) (fun c592 => ?_) (fun c592 => ?_)
      · skip
        refine e_iconst dL_law_599 ?_
        exact J600 0 (Or.inl rfl)
      · skip
        refine e_iconst dL_law_595 ?_
        refine e_goto (tgt := 600) dL_law_596 (by decide) ?_
        exact J600 1 (Or.inr rfl)
  · skip
    show AW l (MLW L f) QW k n 564 _ [zI 115] h
    by_cases hw4 : isWn S q w
    · skip
      have J600 : ∀ u : Int, (u = 0 ∨ u = 1) → AW l (MLW L f) QW k n 600 [zY, zR (some 2), zI ns, zI nc, zR (some 6), zR (some 7), zR (some 99), zL (S 3 0), zX, zI turn, zI at9, zI what, zI q, zI c, zI w, zI 115, zX, zX, zX, zX] [zI u, zI (smv L f (at9 + 5) 2), zI w, zI q, zI 115, zR (some 2)] h := by
        intro u hu
        refine e_callH (As := [zR _, zI _, zI _, zI _, zI _, zI _]) dL_law_600 hoL_is mlL_172 rfl (Nat.le_of_ble_eq_true rfl) ⟨Nat.le_of_ble_eq_true rfl, Nat.le_of_ble_eq_true rfl, by show k + 17 ≤ 600192; omega, by show n + 136 ≤ 7295879; omega⟩ (c_L_is_s hl hR hI q hqz w hwz u hu _ ⟨by omega, by omega⟩ 0 (Eq.symm (if_neg (nn hw4)))) (fun E h9 q => (QI_inl q).elim) (fun v9 h9 q => ?_)
        obtain ⟨e1, qf, q3⟩ := q
        cases e1
        rw [lw1_0]
        have hR2 := (q3.resolve_right (fun z => by omega)).2
        obtain ⟨got, hgot⟩ : ∃ got : Int, got = (if (S 11 (6 * q + w)) = 0 then (0 : Int) else 1) := ⟨_, rfl⟩
        rw [← hgot]
        have hg1 : 0 ≤ got ∧ got ≤ 1 := by rw [hgot]; split <;> omega
        clear hgot
        refine e_istore dL_law_603 (Nat.le_of_ble_eq_true rfl) rfl rfl ?_
        refine e_iload dL_law_605 rfl ?_
        refine e_if_lt (tgt := 632) dL_law_607 (by decide) (by omega) (fun c607 => by exfalso; omega) (fun c607 => ?_)
        refine e_iload dL_law_610 rfl ?_
        refine e_bipush dL_law_612 (by decide) ?_
        refine e_icmp_ne (tgt := 632) dL_law_614 (by decide) (by omega) (by omega) (fun c614 => ?_) (fun c614 => by exfalso; omega)
        refine e_iload dL_law_632 rfl ?_
        refine e_if_lt (tgt := 663) dL_law_634 (by decide) (by omega) (fun c634 => by exfalso; omega) (fun c634 => ?_)
        refine e_iload dL_law_637 rfl ?_
        refine e_bipush dL_law_639 (by decide) ?_
        refine e_icmp_ne (tgt := 663) dL_law_641 (by decide) (by omega) (by omega) (fun c641 => ?_) (fun c641 => by exfalso; omega)
        refine e_goto (tgt := 1230) dL_law_663 (by decide) ?_
        have hJ2 := (LJ_st hJ qf hR2 (I4_le (show B ≤ B + 20000 by omega) (I4_show hI4)) (IBt_up (fun _ => hu) hbt) (by omega) (fun f9 hf j => up_f (by omega)) (HD_ag (fun f9 hf j => up_f (by omega)) hd))
        refine e_mask [true, true, true, true, true, true, true, true, true, true, true, false, false, true, false, false, false, false, false, false] ?_
        refine e_wid (k + 100) (n + 13000) (by show k + 17 ≤ _; omega) (by show n + 136 ≤ _; omega) ?_
        have z9 := K _ _ hJ2
        rw [up_f (by decide)] at z9
        exact z9
      refine e_istore dL_law_564 (Nat.le_of_ble_eq_true rfl) rfl rfl ?_
      refine e_aload_n dL_law_566 rfl rfl ?_
      refine e_iload dL_law_567 rfl ?_
      refine e_iload dL_law_569 rfl ?_
      refine e_iload dL_law_571 rfl ?_
      refine e_aloadY dL_law_573 rfl rfl ?_
      refine e_iload dL_law_574 rfl ?_
      refine e_iconst dL_law_576 ?_
      refine e_iadd dL_law_577 ?_
      refine e_iconst dL_law_578 ?_
      refine e_callSY (Yc := MLsome L f) (As := [zY, zI _, zI _]) dL_law_579 moL_some msL_some mlL_146 rfl rfl rfl (Nat.le_of_ble_eq_true rfl) ⟨Nat.le_of_ble_eq_true rfl, Nat.le_of_ble_eq_true rfl, by show k + 0 ≤ 600192; omega, by show n + 0 ≤ 7295879; omega⟩ (c_L_some hl hL _ _ (by omega) (by omega) (by omega) (by omega)) (fun E h9 q => by cases q.1) (fun v9 h9 q => ?_)
      obtain ⟨e1, e2⟩ := q
      cases e1
      rw [e2]
      clear e2 h9
      refine e_aloadY dL_law_582 rfl rfl ?_
      refine e_iload dL_law_583 rfl ?_
      refine e_bipush dL_law_585 (by decide) ?_
      refine e_iadd dL_law_587 ?_
      refine e_iconst dL_law_588 ?_
      refine e_callSY (Yc := MLsome L f) (As := [zY, zI _, zI _]) dL_law_589 moL_some msL_some mlL_146 rfl rfl rfl (Nat.le_of_ble_eq_true rfl) ⟨Nat.le_of_ble_eq_true rfl, Nat.le_of_ble_eq_true rfl, by show k + 0 ≤ 600192; omega, by show n + 0 ≤ 7295879; omega⟩ (c_L_some hl hL _ _ (by omega) (by omega) (by omega) (by omega)) (fun E h9 q => by cases q.1) (fun v9 h9 q => ?_)
      obtain ⟨e1, e2⟩ := q
      cases e1
      rw [e2]
      clear e2 h9
      refine e_if_ne (tgt := 599) dL_law_592 (by decide) (by omega) (fun c592 => ?_) (fun c592 => ?_)
      · skip
        refine e_iconst dL_law_599 ?_
        exact J600 0 (Or.inl rfl)
      · skip
        refine e_iconst dL_law_595 ?_
        refine e_goto (tgt := 600) dL_law_596 (by decide) ?_
        exact J600 1 (Or.inr rfl)
    · skip
      have J600 : ∀ u : Int, (u = 0 ∨ u = 1) → AW l (MLW L f) QW k n 600 [zY, zR (some 2), zI ns, zI nc, zR (some 6), zR (some 7), zR (some 99), zL (S 3 0), zX, zI turn, zI at9, zI what, zI q, zI c, zI w, zI 115, zX, zX, zX, zX] [zI u, zI (smv L f (at9 + 5) 2), zI w, zI q, zI 115, zR (some 2)] h := by
        intro u hu
        refine e_callH (As := [zR _, zI _, zI _, zI _, zI _, zI _]) dL_law_600 hoL_is mlL_172 rfl (Nat.le_of_ble_eq_true rfl) ⟨Nat.le_of_ble_eq_true rfl, Nat.le_of_ble_eq_true rfl, by show k + 17 ≤ 600192; omega, by show n + 136 ≤ 7295879; omega⟩ (c_L_is_s hl hR hI q hqz w hwz u hu _ ⟨by omega, by omega⟩ 1 (Eq.symm (if_pos hw4))) (fun E h9 q => (QI_inl q).elim) (fun v9 h9 q => ?_)
        obtain ⟨e1, qf, q3⟩ := q
        cases e1
        rw [lw1_1]
        have hR2 := (q3.resolve_left (fun z => by omega)).2
        refine e_istore dL_law_603 (Nat.le_of_ble_eq_true rfl) rfl rfl ?_
        refine e_iload dL_law_605 rfl ?_
        refine e_if_lt (tgt := 632) dL_law_607 (by decide) (by omega) (fun c607 => ?_) (fun c607 => by exfalso; omega)
        refine e_iload dL_law_632 rfl ?_
        refine e_if_lt (tgt := 663) dL_law_634 (by decide) (by omega) (fun c634 => ?_) (fun c634 => by exfalso; omega)
        refine e_goto (tgt := 1230) dL_law_663 (by decide) ?_
        refine e_mask [true, true, true, true, true, true, true, true, true, true, true, false, false, true, false, false, false, false, false, false] ?_
        refine e_wid (k + 100) (n + 13000) (by show k + 17 ≤ _; omega) (by show n + 136 ≤ _; omega) ?_
        exact K S _ (LJ_st hJ qf hR2 (I4_le (show B ≤ B + 20000 by omega) hI4) hbt (by omega) (fun f9 hf j => rfl) hd)
      refine e_istore dL_law_564 (Nat.le_of_ble_eq_true rfl) rfl rfl ?_
      refine e_aload_n dL_law_566 rfl rfl ?_
      refine e_iload dL_law_567 rfl ?_
      refine e_iload dL_law_569 rfl ?_
      refine e_iload dL_law_571 rfl ?_
      refine e_aloadY dL_law_573 rfl rfl ?_
      refine e_iload dL_law_574 rfl ?_
      refine e_iconst dL_law_576 ?_
      refine e_iadd dL_law_577 ?_
      refine e_iconst dL_law_578 ?_
      refine e_callSY (Yc := MLsome L f) (As := [zY, zI _, zI _]) dL_law_579 moL_some msL_some mlL_146 rfl rfl rfl (Nat.le_of_ble_eq_true rfl) ⟨Nat.le_of_ble_eq_true rfl, Nat.le_of_ble_eq_true rfl, by show k + 0 ≤ 600192; omega, by show n + 0 ≤ 7295879; omega⟩ (c_L_some hl hL _ _ (by omega) (by omega) (by omega) (by omega)) (fun E h9 q => by cases q.1) (fun v9 h9 q => ?_)
      obtain ⟨e1, e2⟩ := q
      cases e1
      rw [e2]
      clear e2 h9
      refine e_aloadY dL_law_582 rfl rfl ?_
      refine e_iload dL_law_583 rfl ?_
      refine e_bipush dL_law_585 (by decide) ?_
      refine e_iadd dL_law_587 ?_
      refine e_iconst dL_law_588 ?_
      refine e_callSY (Yc := MLsome L f) (As := [zY, zI _, zI _]) dL_law_589 moL_some msL_some mlL_146 rfl rfl rfl (Nat.le_of_ble_eq_true rfl) ⟨Nat.le_of_ble_eq_true rfl, Nat.le_of_ble_eq_true rfl, by show k + 0 ≤ 600192; omega, by show n + 0 ≤ 7295879; omega⟩ (c_L_some hl hL _ _ (by omega) (by omega) (by omega) (by omega)) (fun E h9 q => by cases q.1) (fun v9 h9 q => ?_)
      obtain ⟨e1, e2⟩ := q
      cases e1
      rw [e2]
      clear e2 h9
      refine e_if_ne (tgt := 599) dL_law_592 (by decide) (by omega) (fun c592 => ?_) (fun c592 => ?_)
      · skip
        refine e_iconst dL_law_599 ?_
        exact J600 0 (Or.inl rfl)
      · skip
        refine e_iconst dL_law_595 ?_
        refine e_goto (tgt := 600) dL_law_596 (by decide) ?_
        exact J600 1 (Or.inr rfl)
  · skip
    show AW l (MLW L f) QW k n 564 _ [zI 109] h
    by_cases hw4 : isWn S q w
    · skip
      have J600 : ∀ u : Int, (u = 0 ∨ u = 1) → AW l (MLW L f) QW k n 600 [zY, zR (some 2), zI ns, zI nc, zR (some 6), zR (some 7), zR (some 99), zL (S 3 0), zX, zI turn, zI at9, zI what, zI q, zI c, zI w, zI 109, zX, zX, zX, zX] [zI u, zI (smv L f (at9 + 5) 2), zI w, zI q, zI 109, zR (some 2)] h := by
        intro u hu
        refine e_callH (As := [zR _, zI _, zI _, zI _, zI _, zI _]) dL_law_600 hoL_is mlL_172 rfl (Nat.le_of_ble_eq_true rfl) ⟨Nat.le_of_ble_eq_true rfl, Nat.le_of_ble_eq_true rfl, by show k + 17 ≤ 600192; omega, by show n + 136 ≤ 7295879; omega⟩ (c_L_is_m hl hR hI q hqz w hwz u (if smv L f (at9 + 5) 2 = 1 then 1 else 0) hu (by split <;> omega) (smv L f (at9 + 5) 2) ⟨by omega, by omega⟩ rfl 0 (Eq.symm (if_neg (nn hw4)))) (fun E h9 q => (QI_inl q).elim) (fun v9 h9 q => ?_)
        obtain ⟨e1, qf, q3⟩ := q
        cases e1
        rw [lw1_0]
        have hR2 := (q3.resolve_right (fun z => by omega)).2
        obtain ⟨got, hgot⟩ : ∃ got : Int, got = (if (b2 (S 12 (6 * q + w) ≠ u ∨ S 13 (6 * q + w) ≠ (if smv L f (at9 + 5) 2 = 1 then 1 else 0))) = 0 then (0 : Int) else 1) := ⟨_, rfl⟩
        rw [← hgot]
        have hg1 : 0 ≤ got ∧ got ≤ 1 := by rw [hgot]; split <;> omega
        clear hgot
        refine e_istore dL_law_603 (Nat.le_of_ble_eq_true rfl) rfl rfl ?_
        refine e_iload dL_law_605 rfl ?_
        refine e_if_lt (tgt := 632) dL_law_607 (by decide) (by omega) (fun c607 => by exfalso; omega) (fun c607 => ?_)
        refine e_iload dL_law_610 rfl ?_
        refine e_bipush dL_law_612 (by decide) ?_
        refine e_icmp_ne (tgt := 632) dL_law_614 (by decide) (by omega) (by omega) (fun c614 => ?_) (fun c614 => by exfalso; omega)
        refine e_iload dL_law_632 rfl ?_
        refine e_if_lt (tgt := 663) dL_law_634 (by decide) (by omega) (fun c634 => by exfalso; omega) (fun c634 => ?_)
        refine e_iload dL_law_637 rfl ?_
        refine e_bipush dL_law_639 (by decide) ?_
        refine e_icmp_ne (tgt := 663) dL_law_641 (by decide) (by omega) (by omega) (fun c641 => ?_) (fun c641 => by exfalso; omega)
        refine e_goto (tgt := 1230) dL_law_663 (by decide) ?_
        have hJ2 := (LJ_st hJ qf hR2 (I4_le (show B ≤ B + 20000 by omega) (I4_mark hI4 hw4 (by omega))) (IBt_up (fun _ => by split <;> omega) (IBt_up (fun _ => hu) hbt)) (by omega) (fun f9 hf j => by rw [up_f (by omega), up_f (by omega)]) (HD_ag (fun f9 hf j => by rw [up_f (by omega), up_f (by omega)]) hd))
        refine e_mask [true, true, true, true, true, true, true, true, true, true, true, false, false, true, false, false, false, false, false, false] ?_
        refine e_wid (k + 100) (n + 13000) (by show k + 17 ≤ _; omega) (by show n + 136 ≤ _; omega) ?_
        have z9 := K _ _ hJ2
        rw [up_f (by decide), up_f (by decide)] at z9
        exact z9
      refine e_istore dL_law_564 (Nat.le_of_ble_eq_true rfl) rfl rfl ?_
      refine e_aload_n dL_law_566 rfl rfl ?_
      refine e_iload dL_law_567 rfl ?_
      refine e_iload dL_law_569 rfl ?_
      refine e_iload dL_law_571 rfl ?_
      refine e_aloadY dL_law_573 rfl rfl ?_
      refine e_iload dL_law_574 rfl ?_
      refine e_iconst dL_law_576 ?_
      refine e_iadd dL_law_577 ?_
      refine e_iconst dL_law_578 ?_
      refine e_callSY (Yc := MLsome L f) (As := [zY, zI _, zI _]) dL_law_579 moL_some msL_some mlL_146 rfl rfl rfl (Nat.le_of_ble_eq_true rfl) ⟨Nat.le_of_ble_eq_true rfl, Nat.le_of_ble_eq_true rfl, by show k + 0 ≤ 600192; omega, by show n + 0 ≤ 7295879; omega⟩ (c_L_some hl hL _ _ (by omega) (by omega) (by omega) (by omega)) (fun E h9 q => by cases q.1) (fun v9 h9 q => ?_)
      obtain ⟨e1, e2⟩ := q
      cases e1
      rw [e2]
      clear e2 h9
      refine e_aloadY dL_law_582 rfl rfl ?_
      refine e_iload dL_law_583 rfl ?_
      refine e_bipush dL_law_585 (by decide) ?_
      refine e_iadd dL_law_587 ?_
      refine e_iconst dL_law_588 ?_
      refine e_callSY (Yc := MLsome L f) (As := [zY, zI _, zI _]) dL_law_589 moL_some msL_some mlL_146 rfl rfl rfl (Nat.le_of_ble_eq_true rfl) ⟨Nat.le_of_ble_eq_true rfl, Nat.le_of_ble_eq_true rfl, by show k + 0 ≤ 600192; omega, by show n + 0 ≤ 7295879; omega⟩ (c_L_some hl hL _ _ (by omega) (by omega) (by omega) (by omega)) (fun E h9 q => by cases q.1) (fun v9 h9 q => ?_)
      obtain ⟨e1, e2⟩ := q
      cases e1
      rw [e2]
      clear e2 h9
      refine e_if_ne (tgt := 599) dL_law_592 (by decide) (by omega) (fun c592 => ?_) (fun c592 => ?_)
      · skip
        refine e_iconst dL_law_599 ?_
        exact J600 0 (Or.inl rfl)
      · skip
        refine e_iconst dL_law_595 ?_
        refine e_goto (tgt := 600) dL_law_596 (by decide) ?_
        exact J600 1 (Or.inr rfl)
    · skip
      have J600 : ∀ u : Int, (u = 0 ∨ u = 1) → AW l (MLW L f) QW k n 600 [zY, zR (some 2), zI ns, zI nc, zR (some 6), zR (some 7), zR (some 99), zL (S 3 0), zX, zI turn, zI at9, zI what, zI q, zI c, zI w, zI 109, zX, zX, zX, zX] [zI u, zI (smv L f (at9 + 5) 2), zI w, zI q, zI 109, zR (some 2)] h := by
        intro u hu
        refine e_callH (As := [zR _, zI _, zI _, zI _, zI _, zI _]) dL_law_600 hoL_is mlL_172 rfl (Nat.le_of_ble_eq_true rfl) ⟨Nat.le_of_ble_eq_true rfl, Nat.le_of_ble_eq_true rfl, by show k + 17 ≤ 600192; omega, by show n + 136 ≤ 7295879; omega⟩ (c_L_is_m hl hR hI q hqz w hwz u (if smv L f (at9 + 5) 2 = 1 then 1 else 0) hu (by split <;> omega) (smv L f (at9 + 5) 2) ⟨by omega, by omega⟩ rfl 1 (Eq.symm (if_pos hw4))) (fun E h9 q => (QI_inl q).elim) (fun v9 h9 q => ?_)
        obtain ⟨e1, qf, q3⟩ := q
        cases e1
        rw [lw1_1]
        have hR2 := (q3.resolve_left (fun z => by omega)).2
        refine e_istore dL_law_603 (Nat.le_of_ble_eq_true rfl) rfl rfl ?_
        refine e_iload dL_law_605 rfl ?_
        refine e_if_lt (tgt := 632) dL_law_607 (by decide) (by omega) (fun c607 => ?_) (fun c607 => by exfalso; omega)
        refine e_iload dL_law_632 rfl ?_
        refine e_if_lt (tgt := 663) dL_law_634 (by decide) (by omega) (fun c634 => ?_) (fun c634 => by exfalso; omega)
        refine e_goto (tgt := 1230) dL_law_663 (by decide) ?_
        refine e_mask [true, true, true, true, true, true, true, true, true, true, true, false, false, true, false, false, false, false, false, false] ?_
        refine e_wid (k + 100) (n + 13000) (by show k + 17 ≤ _; omega) (by show n + 136 ≤ _; omega) ?_
        exact K S _ (LJ_st hJ qf hR2 (I4_le (show B ≤ B + 20000 by omega) hI4) hbt (by omega) (fun f9 hf j => rfl) hd)
      refine e_istore dL_law_564 (Nat.le_of_ble_eq_true rfl) rfl rfl ?_
      refine e_aload_n dL_law_566 rfl rfl ?_
      refine e_iload dL_law_567 rfl ?_
      refine e_iload dL_law_569 rfl ?_
      refine e_iload dL_law_571 rfl ?_
      refine e_aloadY dL_law_573 rfl rfl ?_
      refine e_iload dL_law_574 rfl ?_
      refine e_iconst dL_law_576 ?_
      refine e_iadd dL_law_577 ?_
      refine e_iconst dL_law_578 ?_
      refine e_callSY (Yc := MLsome L f) (As := [zY, zI _, zI _]) dL_law_579 moL_some msL_some mlL_146 rfl rfl rfl (Nat.le_of_ble_eq_true rfl) ⟨Nat.le_of_ble_eq_true rfl, Nat.le_of_ble_eq_true rfl, by show k + 0 ≤ 600192; omega, by show n + 0 ≤ 7295879; omega⟩ (c_L_some hl hL _ _ (by omega) (by omega) (by omega) (by omega)) (fun E h9 q => by cases q.1) (fun v9 h9 q => ?_)
      obtain ⟨e1, e2⟩ := q
      cases e1
      rw [e2]
      clear e2 h9
      refine e_aloadY dL_law_582 rfl rfl ?_
      refine e_iload dL_law_583 rfl ?_
      refine e_bipush dL_law_585 (by decide) ?_
      refine e_iadd dL_law_587 ?_
      refine e_iconst dL_law_588 ?_
      refine e_callSY (Yc := MLsome L f) (As := [zY, zI _, zI _]) dL_law_589 moL_some msL_some mlL_146 rfl rfl rfl (Nat.le_of_ble_eq_true rfl) ⟨Nat.le_of_ble_eq_true rfl, Nat.le_of_ble_eq_true rfl, by show k + 0 ≤ 600192; omega, by show n + 0 ≤ 7295879; omega⟩ (c_L_some hl hL _ _ (by omega) (by omega) (by omega) (by omega)) (fun E h9 q => by cases q.1) (fun v9 h9 q => ?_)
      obtain ⟨e1, e2⟩ := q
      cases e1
      rw [e2]
      clear e2 h9
      refine e_if_ne (tgt := 599) dL_law_592 (by decide) (by omega) (fun c592 => ?_) (fun c592 => ?_)
      · skip
        refine e_iconst dL_law_599 ?_
        exact J600 0 (Or.inl rfl)
      · skip
        refine e_iconst dL_law_595 ?_
        refine e_goto (tgt := 600) dL_law_596 (by decide) ?_
        exact J600 1 (Or.inr rfl)
set_option maxHeartbeats 4000000 in
set_option maxRecDepth 100000 in
/-- a letter is typed -/
theorem br_type {l : Launch} (hl : l.stackTraces = false) (hG : GMore l) {L : Nat} {f : Nat → Int32} (hL : L ≤ 260) {S : S9} {h : zH} {B ns nc turn at9 what q c w : Int} {k n : Nat} (hk : k + 100 ≤ 600192) (hn : n + 13000 ≤ 7295879) (hB9 : B ≤ 1000000) (hJ : LJ S B ns nc h) (hq : 0 ≤ q ∧ q < ns) (hc : 0 ≤ c ∧ c < nc) (hw : 0 ≤ w ∧ w < 6 ∧ (S 4 q ≠ 0 → w < S 4 q)) (ha : 0 ≤ at9 ∧ at9 ≤ 330) (K : ∀ S' h', LJ S' (B + 20000) ns nc h' → AW l (MLW L f) QW (k + 100) (n + 13000) 1230 [zY, zR (some 2), zI ns, zI nc, zR (some 6), zR (some 7), zR (some 99), zL (S' 3 0), zX, zI turn, zI at9, zX, zX, zI c, zX, zX, zX, zX, zX, zX] [] h') : AW l (MLW L f) QW k n 673 [zY, zR (some 2), zI ns, zI nc, zR (some 6), zR (some 7), zR (some 99), zL (S 3 0), zX, zI turn, zI at9, zI what, zI q, zI c, zI w, zX, zX, zX, zX, zX] [] h := by
  obtain ⟨hR, hI4, hbt, hB0, ⟨⟨hb1, hb2⟩, ⟨r1, r2, r3⟩, ⟨w1, w2, w3⟩, d1, d2⟩, hd⟩ := id hJ
  have hI := II_mk hI4 hbt
  have hN : IN S := hI4.1.1
  obtain ⟨n1, n2, n3, n4, n5⟩ := id hN
  have n5q := n5 q (by omega) (by omega)
  have hqS : isS S q := ⟨by omega, by omega⟩
  have hcC : isC S c := ⟨by omega, by omega⟩
  have hqz : zin q := ⟨by omega, by omega⟩
  have hcz : zin c := ⟨by omega, by omega⟩
  have hwz : zin w := ⟨by omega, by omega⟩
  obtain ⟨hq0, hq1⟩ := hq
  obtain ⟨hc0, hc1⟩ := hc
  obtain ⟨hw0, hw6, hw9⟩ := hw
  obtain ⟨ha0, ha1⟩ := ha
  have y4_26 := smv_in (L := L) (f := f) (k := at9 + 4) (n := 26) (by omega)
  have hcs := hI4.1.2.2.2.1 c hcC.1 hcC.2
  have n5c := n5 (S 35 c) hcs.1 (by omega)
  have hgu := gues_in (S := S) (c := c) ⟨n5c.2.2.2.2.1, n5c.2.2.2.2.2⟩
  obtain ⟨t, ht⟩ : ∃ t : Int, t = 97 + smv L f (at9 + 4) 26 := ⟨_, rfl⟩
  have htr : 97 ≤ t ∧ t ≤ 122 := by omega
  have e2c : ((Int32.ofInt t).toUInt32 % 65536).toInt32 = Int32.ofInt t := by
    clear ht
    rcases (show t = 97 ∨ t = 98 ∨ t = 99 ∨ t = 100 ∨ t = 101 ∨ t = 102 ∨ t = 103 ∨ t = 104 ∨ t = 105 ∨ t = 106 ∨ t = 107 ∨ t = 108 ∨ t = 109 ∨ t = 110 ∨ t = 111 ∨ t = 112 ∨ t = 113 ∨ t = 114 ∨ t = 115 ∨ t = 116 ∨ t = 117 ∨ t = 118 ∨ t = 119 ∨ t = 120 ∨ t = 121 ∨ t = 122 by omega) with rfl | rfl | rfl | rfl | rfl | rfl | rfl | rfl | rfl | rfl | rfl | rfl | rfl | rfl | rfl | rfl | rfl | rfl | rfl | rfl | rfl | rfl | rfl | rfl | rfl | rfl <;> decide
  by_cases hok : 0 ≤ topOf S (S 35 c) ∧ S 17 (S 35 c) ≠ 20
  · skip
    refine e_bipush dL_law_673 (by decide) ?_
    refine e_aloadY dL_law_675 rfl rfl ?_
    refine e_iload dL_law_676 rfl ?_
    refine e_iconst dL_law_678 ?_
    refine e_iadd dL_law_679 ?_
    refine e_bipush dL_law_680 (by decide) ?_
    refine e_callSY (Yc := MLsome L f) (As := [zY, zI _, zI _]) dL_law_682 moL_some msL_some mlL_146 rfl rfl rfl (Nat.le_of_ble_eq_true rfl) ⟨Nat.le_of_ble_eq_true rfl, Nat.le_of_ble_eq_true rfl, by show k + 0 ≤ 600192; omega, by show n + 0 ≤ 7295879; omega⟩ (c_L_some hl hL _ _ (by omega) (by omega) (by omega) (by omega)) (fun E h9 q => by cases q.1) (fun v9 h9 q => ?_)
    obtain ⟨e1, e2⟩ := q
    cases e1
    rw [e2]
    clear e2 h9
    refine e_iadd dL_law_685 ?_
    rw [← ht]
    refine e_i2c dL_law_686 e2c ?_
    refine e_istore dL_law_687 (Nat.le_of_ble_eq_true rfl) rfl rfl ?_
    refine e_aload_n dL_law_689 rfl rfl ?_
    refine e_iload dL_law_690 rfl ?_
    refine e_callH (As := [zR _, zI _]) dL_law_692 hoL_guesses mlL_176 rfl (Nat.le_of_ble_eq_true rfl) ⟨Nat.le_of_ble_eq_true rfl, Nat.le_of_ble_eq_true rfl, by show k + 1 ≤ 600192; omega, by show n + 6 ≤ 7295879; omega⟩ (c_L_guesses hl hR hI c hcz 0 (Eq.symm (if_neg (nn hcC)))) (fun E h9 q => (QI_inl q).elim) (fun v9 h9 q => ?_)
    obtain ⟨e1, qf, q3⟩ := q
    cases e1
    rw [lw1_0]
    have hR2 := (q3.resolve_right (fun z => by omega)).2
    refine e_istore dL_law_695 (Nat.le_of_ble_eq_true rfl) rfl rfl ?_
    refine e_aload_n dL_law_697 rfl rfl ?_
    refine e_iload dL_law_698 rfl ?_
    refine e_iload dL_law_700 rfl ?_
    refine e_callH (As := [zR _, zI _, zI _]) dL_law_702 hoL_type mlL_178 rfl (Nat.le_of_ble_eq_true rfl) ⟨Nat.le_of_ble_eq_true rfl, Nat.le_of_ble_eq_true rfl, by show k + 7 ≤ 600192; omega, by show n + 74 ≤ 7295879; omega⟩ (c_L_type hl hR2 hI hG c hcz t ⟨by omega, by omega⟩ 0 (Eq.symm (Eq.trans (if_neg (nn hcC)) (Eq.trans (if_neg (by omega)) (Eq.trans (if_neg (by omega)) (if_neg hok.2)))))) (fun E h9 q => (QI_inl q).elim) (fun v9 h9 q => ?_)
    obtain ⟨e1, qf2, q3⟩ := q
    cases e1
    rw [lw4_0]
    have hR3 := (q3.resolve_right (fun z => by omega)).2
    have hI42 := I4_type (t := t) hI4 hcC hok.1 (by omega)
    have hbt2 := IBt_typ (c := c) (t := t) hbt
    have eS : ∀ f9, (f9 < 17 ∨ 21 < f9) → ∀ j, typS S c t f9 j = S f9 j := fun f9 hf j => typ_f hf
    have hgt := gues_typ (S := S) (c := c) (t := t) n5c.2.2.2.2.1
    have hHD : ∀ H : Int → Prop, H (101 + t - 97) → H 7 → HD S H → HD (typS S c t) H := fun H h1 h7 hh => HD_typ h1 h7 hcs.1 ⟨n5c.2.2.2.2.1, by omega⟩ (fun s s0 s4 => (n5 s s0 s4).2.2.2.2.2) hh
    generalize typS S c t = S2 at hR3 hI42 hbt2 eS hgt hHD
    have hI2 := II_mk hI42 hbt2
    have hcC2 : isC S2 c := by unfold isC; rw [eS 2 (by decide)]; exact hcC
    have d12 := FQ_tr qf qf2
    have g1 := (d12 99 (by decide)).1.trans d1
    have g2 := (d12 99 (by decide)).2.1.trans d2
    refine e_istore dL_law_705 (Nat.le_of_ble_eq_true rfl) rfl rfl ?_
    refine e_iload dL_law_707 rfl ?_
    refine e_if_le (tgt := 730) dL_law_709 (by decide) (by omega) (fun c709 => by exfalso; omega) (fun c709 => ?_)
    refine e_aload dL_law_712 rfl ?_
    refine e_bipush dL_law_714 (by decide) ?_
    refine e_iload dL_law_716 rfl ?_
    refine e_iadd dL_law_718 ?_
    refine e_bipush dL_law_719 (by decide) ?_
    refine e_isub dL_law_721 ?_
    refine e_iconst dL_law_722 ?_
    refine e_zast dL_law_723 g1 (by omega) (by rw [g2]; omega) (Or.inr rfl) ?_
    refine e_aload dL_law_724 rfl ?_
    refine e_bipush dL_law_726 (by decide) ?_
    refine e_iconst dL_law_728 ?_
    refine e_zast dL_law_729 g1 (by omega) (by show _ < zN h9 99; rw [g2]; omega) (Or.inr rfl) ?_
    have hR3b := RC_row9 (a := 99) (i := 7) (v := 1) (Or.inr (Or.inr rfl)) hI42.1.1 (RC_row9 (a := 99) (i := 101 + t - 97) (v := 1) (Or.inr (Or.inr rfl)) hI42.1.1 hR3)
    refine e_aload_n dL_law_730 rfl rfl ?_
    refine e_iload dL_law_731 rfl ?_
    refine e_callH (As := [zR _, zI _]) dL_law_733 hoL_guesses mlL_176 rfl (Nat.le_of_ble_eq_true rfl) ⟨Nat.le_of_ble_eq_true rfl, Nat.le_of_ble_eq_true rfl, by show k + 8 ≤ 600192; omega, by show n + 80 ≤ 7295879; omega⟩ (c_L_guesses hl hR3b hI2 c hcz 0 (Eq.symm (if_neg (nn hcC2)))) (fun E h9 q => (QI_inl q).elim) (fun v9 h9 q => ?_)
    obtain ⟨e1, qf3, q3⟩ := q
    cases e1
    rw [lw1_0, hgt]
    have hR4 := (q3.resolve_right (fun z => by omega)).2
    refine e_iload dL_law_736 rfl ?_
    refine e_iload dL_law_738 rfl ?_
    refine e_if_le (tgt := 747) dL_law_740 (by decide) (by omega) (fun c740 => by exfalso; omega) (fun c740 => ?_)
    refine e_iconst dL_law_743 ?_
    refine e_goto (tgt := 748) dL_law_744 (by decide) ?_
    refine e_iadd dL_law_748 ?_
    refine e_icmp_eq (tgt := 754) dL_law_749 (by decide) (by omega) (by omega) (fun c749 => ?_) (fun c749 => by exfalso; exact c749 rfl)
    refine e_goto (tgt := 1230) dL_law_754 (by decide) ?_
    have hW2 := LW_st (LW_had (v := 7) (LW_had (v := 101 + t - 97) (LW_st hJ.2.2.2.2.1 d12 (fun f9 hf j => rfl)))) qf3 (fun f9 hf j => eS f9 (by omega) j)
    have hle := fun v (hv : hadP h v) => had_le (i := 7) (had_le (i := 101 + t - 97) ((had_at (d12 99 (by decide))).symm ▸ hv))
    have eH := had_at (qf3 99 (by decide))
    have hJ2 : LJ S2 (B + 20000) ns nc _ := ⟨hR4, I4_le (show B ≤ B + 20000 by omega) hI42, hbt2, by omega, hW2, by rw [eH]; exact hHD _ (had_le (had_set (by omega))) (had_set (by omega)) (HD_le hle hd)⟩
    refine e_mask [true, true, true, true, true, true, true, true, true, true, true, false, false, true, false, false, false, false, false, false] ?_
    refine e_wid (k + 100) (n + 13000) (by show k + 8 ≤ _; omega) (by show n + 80 ≤ _; omega) ?_
    have z9 := K _ _ hJ2
    rw [eS 3 (by decide) 0] at z9
    exact z9
  · skip
    by_cases htop : topOf S (S 35 c) < 0
    · skip
      refine e_bipush dL_law_673 (by decide) ?_
      refine e_aloadY dL_law_675 rfl rfl ?_
      refine e_iload dL_law_676 rfl ?_
      refine e_iconst dL_law_678 ?_
      refine e_iadd dL_law_679 ?_
      refine e_bipush dL_law_680 (by decide) ?_
      refine e_callSY (Yc := MLsome L f) (As := [zY, zI _, zI _]) dL_law_682 moL_some msL_some mlL_146 rfl rfl rfl (Nat.le_of_ble_eq_true rfl) ⟨Nat.le_of_ble_eq_true rfl, Nat.le_of_ble_eq_true rfl, by show k + 0 ≤ 600192; omega, by show n + 0 ≤ 7295879; omega⟩ (c_L_some hl hL _ _ (by omega) (by omega) (by omega) (by omega)) (fun E h9 q => by cases q.1) (fun v9 h9 q => ?_)
      obtain ⟨e1, e2⟩ := q
      cases e1
      rw [e2]
      clear e2 h9
      refine e_iadd dL_law_685 ?_
      rw [← ht]
      refine e_i2c dL_law_686 e2c ?_
      refine e_istore dL_law_687 (Nat.le_of_ble_eq_true rfl) rfl rfl ?_
      refine e_aload_n dL_law_689 rfl rfl ?_
      refine e_iload dL_law_690 rfl ?_
      refine e_callH (As := [zR _, zI _]) dL_law_692 hoL_guesses mlL_176 rfl (Nat.le_of_ble_eq_true rfl) ⟨Nat.le_of_ble_eq_true rfl, Nat.le_of_ble_eq_true rfl, by show k + 1 ≤ 600192; omega, by show n + 6 ≤ 7295879; omega⟩ (c_L_guesses hl hR hI c hcz 0 (Eq.symm (if_neg (nn hcC)))) (fun E h9 q => (QI_inl q).elim) (fun v9 h9 q => ?_)
      obtain ⟨e1, qf, q3⟩ := q
      cases e1
      rw [lw1_0]
      have hR2 := (q3.resolve_right (fun z => by omega)).2
      refine e_istore dL_law_695 (Nat.le_of_ble_eq_true rfl) rfl rfl ?_
      refine e_aload_n dL_law_697 rfl rfl ?_
      refine e_iload dL_law_698 rfl ?_
      refine e_iload dL_law_700 rfl ?_
      refine e_callH (As := [zR _, zI _, zI _]) dL_law_702 hoL_type mlL_178 rfl (Nat.le_of_ble_eq_true rfl) ⟨Nat.le_of_ble_eq_true rfl, Nat.le_of_ble_eq_true rfl, by show k + 7 ≤ 600192; omega, by show n + 74 ≤ 7295879; omega⟩ (c_L_type hl hR2 hI hG c hcz t ⟨by omega, by omega⟩ 3 (Eq.symm (Eq.trans (if_neg (nn hcC)) (Eq.trans (if_neg (by omega)) (if_pos htop))))) (fun E h9 q => (QI_inl q).elim) (fun v9 h9 q => ?_)
      obtain ⟨e1, qf2, q3⟩ := q
      cases e1
      rw [lw4_3]
      have hR3 := (q3.resolve_left (fun z => by omega)).2
      refine e_istore dL_law_705 (Nat.le_of_ble_eq_true rfl) rfl rfl ?_
      refine e_iload dL_law_707 rfl ?_
      refine e_if_le (tgt := 730) dL_law_709 (by decide) (by omega) (fun c709 => ?_) (fun c709 => by exfalso; omega)
      refine e_aload_n dL_law_730 rfl rfl ?_
      refine e_iload dL_law_731 rfl ?_
      refine e_callH (As := [zR _, zI _]) dL_law_733 hoL_guesses mlL_176 rfl (Nat.le_of_ble_eq_true rfl) ⟨Nat.le_of_ble_eq_true rfl, Nat.le_of_ble_eq_true rfl, by show k + 8 ≤ 600192; omega, by show n + 80 ≤ 7295879; omega⟩ (c_L_guesses hl hR3 hI c hcz 0 (Eq.symm (if_neg (nn hcC)))) (fun E h9 q => (QI_inl q).elim) (fun v9 h9 q => ?_)
      obtain ⟨e1, qf3, q3⟩ := q
      cases e1
      rw [lw1_0]
      have hR4 := (q3.resolve_right (fun z => by omega)).2
      refine e_iload dL_law_736 rfl ?_
      refine e_iload dL_law_738 rfl ?_
      refine e_if_le (tgt := 747) dL_law_740 (by decide) (by omega) (fun c740 => ?_) (fun c740 => by exfalso; omega)
      refine e_iconst dL_law_747 ?_
      refine e_iadd dL_law_748 ?_
      refine e_icmp_eq (tgt := 754) dL_law_749 (by decide) (by omega) (by omega) (fun c749 => ?_) (fun c749 => by exfalso; exact c749 (by omega))
      refine e_goto (tgt := 1230) dL_law_754 (by decide) ?_
      refine e_mask [true, true, true, true, true, true, true, true, true, true, true, false, false, true, false, false, false, false, false, false] ?_
      refine e_wid (k + 100) (n + 13000) (by show k + 8 ≤ _; omega) (by show n + 80 ≤ _; omega) ?_
      exact K S _ (LJ_st hJ (FQ_tr (FQ_tr qf qf2) qf3) hR4 (I4_le (show B ≤ B + 20000 by omega) hI4) hbt (by omega) (fun f9 hf j => rfl) hd)
    · skip
      refine e_bipush dL_law_673 (by decide) ?_
      refine e_aloadY dL_law_675 rfl rfl ?_
      refine e_iload dL_law_676 rfl ?_
      refine e_iconst dL_law_678 ?_
      refine e_iadd dL_law_679 ?_
      refine e_bipush dL_law_680 (by decide) ?_
      refine e_callSY (Yc := MLsome L f) (As := [zY, zI _, zI _]) dL_law_682 moL_some msL_some mlL_146 rfl rfl rfl (Nat.le_of_ble_eq_true rfl) ⟨Nat.le_of_ble_eq_true rfl, Nat.le_of_ble_eq_true rfl, by show k + 0 ≤ 600192; omega, by show n + 0 ≤ 7295879; omega⟩ (c_L_some hl hL _ _ (by omega) (by omega) (by omega) (by omega)) (fun E h9 q => by cases q.1) (fun v9 h9 q => ?_)
      obtain ⟨e1, e2⟩ := q
      cases e1
      rw [e2]
      clear e2 h9
      refine e_iadd dL_law_685 ?_
      rw [← ht]
      refine e_i2c dL_law_686 e2c ?_
      refine e_istore dL_law_687 (Nat.le_of_ble_eq_true rfl) rfl rfl ?_
      refine e_aload_n dL_law_689 rfl rfl ?_
      refine e_iload dL_law_690 rfl ?_
      refine e_callH (As := [zR _, zI _]) dL_law_692 hoL_guesses mlL_176 rfl (Nat.le_of_ble_eq_true rfl) ⟨Nat.le_of_ble_eq_true rfl, Nat.le_of_ble_eq_true rfl, by show k + 1 ≤ 600192; omega, by show n + 6 ≤ 7295879; omega⟩ (c_L_guesses hl hR hI c hcz 0 (Eq.symm (if_neg (nn hcC)))) (fun E h9 q => (QI_inl q).elim) (fun v9 h9 q => ?_)
      obtain ⟨e1, qf, q3⟩ := q
      cases e1
      rw [lw1_0]
      have hR2 := (q3.resolve_right (fun z => by omega)).2
      refine e_istore dL_law_695 (Nat.le_of_ble_eq_true rfl) rfl rfl ?_
      refine e_aload_n dL_law_697 rfl rfl ?_
      refine e_iload dL_law_698 rfl ?_
      refine e_iload dL_law_700 rfl ?_
      refine e_callH (As := [zR _, zI _, zI _]) dL_law_702 hoL_type mlL_178 rfl (Nat.le_of_ble_eq_true rfl) ⟨Nat.le_of_ble_eq_true rfl, Nat.le_of_ble_eq_true rfl, by show k + 7 ≤ 600192; omega, by show n + 74 ≤ 7295879; omega⟩ (c_L_type hl hR2 hI hG c hcz t ⟨by omega, by omega⟩ 4 (Eq.symm (Eq.trans (if_neg (nn hcC)) (Eq.trans (if_neg (by omega)) (Eq.trans (if_neg htop) (if_pos (by omega))))))) (fun E h9 q => (QI_inl q).elim) (fun v9 h9 q => ?_)
      obtain ⟨e1, qf2, q3⟩ := q
      cases e1
      rw [lw4_4]
      have hR3 := (q3.resolve_left (fun z => by omega)).2
      refine e_istore dL_law_705 (Nat.le_of_ble_eq_true rfl) rfl rfl ?_
      refine e_iload dL_law_707 rfl ?_
      refine e_if_le (tgt := 730) dL_law_709 (by decide) (by omega) (fun c709 => ?_) (fun c709 => by exfalso; omega)
      refine e_aload_n dL_law_730 rfl rfl ?_
      refine e_iload dL_law_731 rfl ?_
      refine e_callH (As := [zR _, zI _]) dL_law_733 hoL_guesses mlL_176 rfl (Nat.le_of_ble_eq_true rfl) ⟨Nat.le_of_ble_eq_true rfl, Nat.le_of_ble_eq_true rfl, by show k + 8 ≤ 600192; omega, by show n + 80 ≤ 7295879; omega⟩ (c_L_guesses hl hR3 hI c hcz 0 (Eq.symm (if_neg (nn hcC)))) (fun E h9 q => (QI_inl q).elim) (fun v9 h9 q => ?_)
      obtain ⟨e1, qf3, q3⟩ := q
      cases e1
      rw [lw1_0]
      have hR4 := (q3.resolve_right (fun z => by omega)).2
      refine e_iload dL_law_736 rfl ?_
      refine e_iload dL_law_738 rfl ?_
      refine e_if_le (tgt := 747) dL_law_740 (by decide) (by omega) (fun c740 => ?_) (fun c740 => by exfalso; omega)
      refine e_iconst dL_law_747 ?_
      refine e_iadd dL_law_748 ?_
      refine e_icmp_eq (tgt := 754) dL_law_749 (by decide) (by omega) (by omega) (fun c749 => ?_) (fun c749 => by exfalso; exact c749 (by omega))
      refine e_goto (tgt := 1230) dL_law_754 (by decide) ?_
      refine e_mask [true, true, true, true, true, true, true, true, true, true, true, false, false, true, false, false, false, false, false, false] ?_
      refine e_wid (k + 100) (n + 13000) (by show k + 8 ≤ _; omega) (by show n + 80 ≤ _; omega) ?_
      exact K S _ (LJ_st hJ (FQ_tr (FQ_tr qf qf2) qf3) hR4 (I4_le (show B ≤ B + 20000 by omega) hI4) hbt (by omega) (fun f9 hf j => rfl) hd)
set_option maxHeartbeats 4000000 in
set_option maxRecDepth 100000 in
/-- a session begins to move -/
theorem br_mv {l : Launch} (hl : l.stackTraces = false) (hG : GMore l) {L : Nat} {f : Nat → Int32} (hL : L ≤ 260) {S : S9} {h : zH} {B ns nc turn at9 what q c w : Int} {k n : Nat} (hk : k + 100 ≤ 600192) (hn : n + 13000 ≤ 7295879) (hB9 : B ≤ 1000000) (hJ : LJ S B ns nc h) (hq : 0 ≤ q ∧ q < ns) (hc : 0 ≤ c ∧ c < nc) (hw : 0 ≤ w ∧ w < 6 ∧ (S 4 q ≠ 0 → w < S 4 q)) (ha : 0 ≤ at9 ∧ at9 ≤ 330) (K : ∀ S' h', LJ S' (B + 20000) ns nc h' → AW l (MLW L f) QW (k + 100) (n + 13000) 1230 [zY, zR (some 2), zI ns, zI nc, zR (some 6), zR (some 7), zR (some 99), zL (S' 3 0), zX, zI turn, zI at9, zX, zX, zI c, zX, zX, zX, zX, zX, zX] [] h') : AW l (MLW L f) QW k n 764 [zY, zR (some 2), zI ns, zI nc, zR (some 6), zR (some 7), zR (some 99), zL (S 3 0), zX, zI turn, zI at9, zI what, zI q, zI c, zI w, zX, zX, zX, zX, zX] [] h := by
  obtain ⟨hR, hI4, hbt, hB0, ⟨⟨hb1, hb2⟩, ⟨r1, r2, r3⟩, ⟨w1, w2, w3⟩, d1, d2⟩, hd⟩ := id hJ
  have hI := II_mk hI4 hbt
  have hN : IN S := hI4.1.1
  obtain ⟨n1, n2, n3, n4, n5⟩ := id hN
  have n5q := n5 q (by omega) (by omega)
  have hqS : isS S q := ⟨by omega, by omega⟩
  have hcC : isC S c := ⟨by omega, by omega⟩
  have hqz : zin q := ⟨by omega, by omega⟩
  have hcz : zin c := ⟨by omega, by omega⟩
  have hwz : zin w := ⟨by omega, by omega⟩
  obtain ⟨hq0, hq1⟩ := hq
  obtain ⟨hc0, hc1⟩ := hc
  obtain ⟨hw0, hw6, hw9⟩ := hw
  obtain ⟨ha0, ha1⟩ := ha
  have hh28 := (hI4.2.2.1.2.1 q (by omega) (by omega))
  by_cases h26 : S 26 q = 1
  · skip
    have hcl := cntL_in (S := S) (s := q)
    refine e_aload_n dL_law_764 rfl rfl ?_
    refine e_bipush dL_law_765 (by decide) ?_
    refine e_iload dL_law_767 rfl ?_
    refine e_iconst dL_law_769 ?_
    refine e_iconst dL_law_770 ?_
    refine e_iconst dL_law_771 ?_
    refine e_callH (As := [zR _, zI _, zI _, zI _, zI _, zI _]) dL_law_772 hoL_is mlL_172 rfl (Nat.le_of_ble_eq_true rfl) ⟨Nat.le_of_ble_eq_true rfl, Nat.le_of_ble_eq_true rfl, by show k + 17 ≤ 600192; omega, by show n + 136 ≤ 7295879; omega⟩ (c_L_is_v hl hR hI q hqz 0 0 1 (by decide) (Or.inr rfl) 2 (Eq.symm (Eq.trans (if_neg (nn hqS)) (if_pos h26)))) (fun E h9 q => (QI_inl q).elim) (fun v9 h9 q => ?_)
    obtain ⟨e1, qf, q3⟩ := q
    cases e1
    rw [lw2_2]
    have hR2 := (q3.resolve_left (fun z => by omega)).2
    refine e_istore dL_law_775 (Nat.le_of_ble_eq_true rfl) rfl rfl ?_
    refine e_iload dL_law_777 rfl ?_
    refine e_ldcI (z := -1000000) dL_law_779 ctL_21 ?_
    refine e_icmp_eq (tgt := 795) dL_law_781 (by decide) (by omega) (by omega) (fun c781 => ?_) (fun c781 => by exfalso; exact c781 rfl)
    refine e_iload dL_law_795 rfl ?_
    refine e_ldcI (z := -1000000) dL_law_797 ctL_21 ?_
    refine e_icmp_ne (tgt := 813) dL_law_799 (by decide) (by omega) (by omega) (fun c799 => by exfalso; exact c799 rfl) (fun c799 => ?_)
    refine e_aload_n dL_law_802 rfl rfl ?_
    refine e_iload dL_law_803 rfl ?_
    refine e_callH (As := [zR _, zI _]) dL_law_805 hoL_left mlL_181 rfl (Nat.le_of_ble_eq_true rfl) ⟨Nat.le_of_ble_eq_true rfl, Nat.le_of_ble_eq_true rfl, by show k + 19 ≤ 600192; omega, by show n + 148 ≤ 7295879; omega⟩ (c_L_left hl hR2 hI q hqz 0 (Eq.symm (Eq.trans (if_neg (nn hqS)) (if_neg (nn h26))))) (fun E h9 q => (QI_inl q).elim) (fun v9 h9 q => ?_)
    obtain ⟨e1, qf2, q3⟩ := q
    cases e1
    rw [lw2_0]
    have hR3 := (q3.resolve_right (fun z => by omega)).2
    refine e_ldcI (z := -1000000) dL_law_808 ctL_21 ?_
    refine e_icmp_eq (tgt := 846) dL_law_810 (by decide) (by omega) (by omega) (fun c810 => by exfalso; omega) (fun c810 => ?_)
    refine e_iload dL_law_813 rfl ?_
    refine e_if_lt (tgt := 848) dL_law_815 (by decide) (by omega) (fun c815 => ?_) (fun c815 => by exfalso; omega)
    refine e_goto (tgt := 1230) dL_law_848 (by decide) ?_
    refine e_mask [true, true, true, true, true, true, true, true, true, true, true, false, false, true, false, false, false, false, false, false] ?_
    refine e_wid (k + 100) (n + 13000) (by show k + 19 ≤ _; omega) (by show n + 148 ≤ _; omega) ?_
    exact K S _ (LJ_st hJ (FQ_tr qf qf2) hR3 (I4_le (show B ≤ B + 20000 by omega) hI4) hbt (by omega) (fun f9 hf j => rfl) hd)
  · skip
    refine e_aload_n dL_law_764 rfl rfl ?_
    refine e_bipush dL_law_765 (by decide) ?_
    refine e_iload dL_law_767 rfl ?_
    refine e_iconst dL_law_769 ?_
    refine e_iconst dL_law_770 ?_
    refine e_iconst dL_law_771 ?_
    refine e_callH (As := [zR _, zI _, zI _, zI _, zI _, zI _]) dL_law_772 hoL_is mlL_172 rfl (Nat.le_of_ble_eq_true rfl) ⟨Nat.le_of_ble_eq_true rfl, Nat.le_of_ble_eq_true rfl, by show k + 17 ≤ 600192; omega, by show n + 136 ≤ 7295879; omega⟩ (c_L_is_v hl hR hI q hqz 0 0 1 (by decide) (Or.inr rfl) 0 (Eq.symm (Eq.trans (if_neg (nn hqS)) (if_neg h26)))) (fun E h9 q => (QI_inl q).elim) (fun v9 h9 q => ?_)
    obtain ⟨e1, qf, q3⟩ := q
    cases e1
    rw [lw2_0]
    have hR2 := (q3.resolve_right (fun z => by omega)).2
    have hI42 := I4_move hI4 hqS.2
    have hbt2 := IBt_movg (s := q) hbt
    have eS : ∀ f9, (f9 ≠ 26 ∧ f9 ≠ 29) → ∀ j, movgS S q f9 j = S f9 j := fun f9 hf j => movgS_f hf.1 hf.2
    have e26 := movg_26 (S := S) (s := q)
    have ecl := movg_cnt (S := S) (s := q)
    generalize movgS S q = S2 at hR2 hI42 hbt2 eS e26 ecl
    have hI2 := II_mk hI42 hbt2
    have hqS2 : isS S2 q := by unfold isS; rw [eS 1 (by decide)]; exact hqS
    have hb28 : (b2 (0 < S 28 q) = 0 ∧ ¬ 0 < S 28 q) ∨ (b2 (0 < S 28 q) = 1 ∧ 0 < S 28 q) := by
      by_cases y : 0 < S 28 q
      · exact Or.inr ⟨b2_t y, y⟩
      · exact Or.inl ⟨b2_f y, y⟩
    generalize b2 (0 < S 28 q) = got at hb28 ⊢
    have hgot : (if got = 0 then (0 : Int) else 1) = got := by split <;> omega
    rw [hgot]
    clear hgot
    refine e_istore dL_law_775 (Nat.le_of_ble_eq_true rfl) rfl rfl ?_
    refine e_iload dL_law_777 rfl ?_
    refine e_ldcI (z := -1000000) dL_law_779 ctL_21 ?_
    refine e_icmp_eq (tgt := 795) dL_law_781 (by decide) (by omega) (by omega) (fun c781 => by exfalso; omega) (fun c781 => ?_)
    refine e_aload_n dL_law_784 rfl rfl ?_
    refine e_iload dL_law_785 rfl ?_
    refine e_callH (As := [zR _, zI _]) dL_law_787 hoL_left mlL_181 rfl (Nat.le_of_ble_eq_true rfl) ⟨Nat.le_of_ble_eq_true rfl, Nat.le_of_ble_eq_true rfl, by show k + 19 ≤ 600192; omega, by show n + 148 ≤ 7295879; omega⟩ (c_L_left hl hR2 hI2 q hqz 0 (Eq.symm (Eq.trans (if_neg (nn hqS2)) (if_neg (nn e26))))) (fun E h9 q => (QI_inl q).elim) (fun v9 h9 q => ?_)
    obtain ⟨e1, qf2, q3⟩ := q
    cases e1
    rw [lw2_0, ecl]
    have hR3 := (q3.resolve_right (fun z => by omega)).2
    refine e_bipush dL_law_790 (by decide) ?_
    refine e_icmp_ne (tgt := 846) dL_law_792 (by decide) (by omega) (by omega) (fun c792 => by exfalso; exact c792 rfl) (fun c792 => ?_)
    refine e_iload dL_law_795 rfl ?_
    refine e_ldcI (z := -1000000) dL_law_797 ctL_21 ?_
    refine e_icmp_ne (tgt := 813) dL_law_799 (by decide) (by omega) (by omega) (fun c799 => ?_) (fun c799 => by exfalso; omega)
    refine e_iload dL_law_813 rfl ?_
    refine e_if_lt (tgt := 848) dL_law_815 (by decide) (by omega) (fun c815 => by exfalso; omega) (fun c815 => ?_)
    refine e_iload dL_law_818 rfl ?_
    refine e_iconst dL_law_820 ?_
    refine e_icmp_ne (tgt := 828) dL_law_821 (by decide) (by omega) (by omega) (fun c821 => ?_) (fun c821 => ?_)
    · skip
      refine e_iconst dL_law_828 ?_
      refine e_aload_n dL_law_829 rfl rfl ?_
      refine e_iload dL_law_830 rfl ?_
      refine e_callH (As := [zR _, zI _]) dL_law_832 hoL_host mlL_183 rfl (Nat.le_of_ble_eq_true rfl) ⟨Nat.le_of_ble_eq_true rfl, Nat.le_of_ble_eq_true rfl, by show k + 20 ≤ 600192; omega, by show n + 154 ≤ 7295879; omega⟩ (c_L_host hl hR3 hI2 q hqz 0 (Eq.symm (if_neg (nn hqS2)))) (fun E h9 q => (QI_inl q).elim) (fun v9 h9 q => ?_)
      obtain ⟨e1, qf3, q3⟩ := q
      cases e1
      rw [lw1_0, eS 28 (by decide)]
      have hR4 := (q3.resolve_right (fun z => by omega)).2
      refine e_if_le (tgt := 842) dL_law_835 (by decide) (by omega) (fun c835 => ?_) (fun c835 => by exfalso; omega)
      refine e_iconst dL_law_842 ?_
      refine e_icmp_eq (tgt := 848) dL_law_843 (by decide) (by omega) (by omega) (fun c843 => ?_) (fun c843 => by exfalso; exact c843 rfl)
      refine e_goto (tgt := 1230) dL_law_848 (by decide) ?_
      have hJ2 := (LJ_st hJ (FQ_tr (FQ_tr qf qf2) qf3) hR4 (I4_le (show B ≤ B + 20000 by omega) hI42) (hbt2) (by omega) (fun f9 hf j => eS f9 (by omega) j) (HD_ag (fun f9 hf j => eS f9 (by omega) j) hd))
      refine e_mask [true, true, true, true, true, true, true, true, true, true, true, false, false, true, false, false, false, false, false, false] ?_
      refine e_wid (k + 100) (n + 13000) (by show k + 20 ≤ _; omega) (by show n + 154 ≤ _; omega) ?_
      have z9 := K _ _ hJ2
      rw [eS 3 (by decide) 0] at z9
      exact z9
    · skip
      refine e_iconst dL_law_824 ?_
      refine e_goto (tgt := 829) dL_law_825 (by decide) ?_
      refine e_aload_n dL_law_829 rfl rfl ?_
      refine e_iload dL_law_830 rfl ?_
      refine e_callH (As := [zR _, zI _]) dL_law_832 hoL_host mlL_183 rfl (Nat.le_of_ble_eq_true rfl) ⟨Nat.le_of_ble_eq_true rfl, Nat.le_of_ble_eq_true rfl, by show k + 20 ≤ 600192; omega, by show n + 154 ≤ 7295879; omega⟩ (c_L_host hl hR3 hI2 q hqz 0 (Eq.symm (if_neg (nn hqS2)))) (fun E h9 q => (QI_inl q).elim) (fun v9 h9 q => ?_)
      obtain ⟨e1, qf3, q3⟩ := q
      cases e1
      rw [lw1_0, eS 28 (by decide)]
      have hR4 := (q3.resolve_right (fun z => by omega)).2
      refine e_if_le (tgt := 842) dL_law_835 (by decide) (by omega) (fun c835 => by exfalso; omega) (fun c835 => ?_)
      refine e_iconst dL_law_838 ?_
      refine e_goto (tgt := 843) dL_law_839 (by decide) ?_
      refine e_icmp_eq (tgt := 848) dL_law_843 (by decide) (by omega) (by omega) (fun c843 => ?_) (fun c843 => by exfalso; exact c843 rfl)
      refine e_goto (tgt := 1230) dL_law_848 (by decide) ?_
      have hJ2 := (LJ_st hJ (FQ_tr (FQ_tr qf qf2) qf3) hR4 (I4_le (show B ≤ B + 20000 by omega) hI42) (hbt2) (by omega) (fun f9 hf j => eS f9 (by omega) j) (HD_ag (fun f9 hf j => eS f9 (by omega) j) hd))
      refine e_mask [true, true, true, true, true, true, true, true, true, true, true, false, false, true, false, false, false, false, false, false] ?_
      refine e_wid (k + 100) (n + 13000) (by show k + 20 ≤ _; omega) (by show n + 154 ≤ _; omega) ?_
      have z9 := K _ _ hJ2
      rw [eS 3 (by decide) 0] at z9
      exact z9
set_option maxHeartbeats 4000000 in
set_option maxRecDepth 100000 in
/-- a recording begins -/
theorem br_rec {l : Launch} (hl : l.stackTraces = false) (hG : GMore l) {L : Nat} {f : Nat → Int32} (hL : L ≤ 260) {S : S9} {h : zH} {B ns nc turn at9 what q c w : Int} {k n : Nat} (hk : k + 100 ≤ 600192) (hn : n + 13000 ≤ 7295879) (hB9 : B ≤ 1000000) (hJ : LJ S B ns nc h) (hq : 0 ≤ q ∧ q < ns) (hc : 0 ≤ c ∧ c < nc) (hw : 0 ≤ w ∧ w < 6 ∧ (S 4 q ≠ 0 → w < S 4 q)) (ha : 0 ≤ at9 ∧ at9 ≤ 330) (K : ∀ S' h', LJ S' (B + 20000) ns nc h' → AW l (MLW L f) QW (k + 100) (n + 13000) 1230 [zY, zR (some 2), zI ns, zI nc, zR (some 6), zR (some 7), zR (some 99), zL (S' 3 0), zX, zI turn, zI at9, zX, zX, zI c, zX, zX, zX, zX, zX, zX] [] h') : AW l (MLW L f) QW k n 858 [zY, zR (some 2), zI ns, zI nc, zR (some 6), zR (some 7), zR (some 99), zL (S 3 0), zX, zI turn, zI at9, zI what, zI q, zI c, zI w, zX, zX, zX, zX, zX] [] h := by
  obtain ⟨hR, hI4, hbt, hB0, ⟨⟨hb1, hb2⟩, ⟨r1, r2, r3⟩, ⟨w1, w2, w3⟩, d1, d2⟩, hd⟩ := id hJ
  have hI := II_mk hI4 hbt
  have hN : IN S := hI4.1.1
  obtain ⟨n1, n2, n3, n4, n5⟩ := id hN
  have n5q := n5 q (by omega) (by omega)
  have hqS : isS S q := ⟨by omega, by omega⟩
  have hcC : isC S c := ⟨by omega, by omega⟩
  have hqz : zin q := ⟨by omega, by omega⟩
  have hcz : zin c := ⟨by omega, by omega⟩
  have hwz : zin w := ⟨by omega, by omega⟩
  obtain ⟨hq0, hq1⟩ := hq
  obtain ⟨hc0, hc1⟩ := hc
  obtain ⟨hw0, hw6, hw9⟩ := hw
  obtain ⟨ha0, ha1⟩ := ha
  have hh32 := (hI4.2.2.1.2.1 q (by omega) (by omega))
  refine e_aload_n dL_law_858 rfl rfl ?_
  refine e_iload dL_law_859 rfl ?_
  refine e_callH (As := [zR _, zI _]) dL_law_861 hoL_record mlL_185 rfl (Nat.le_of_ble_eq_true rfl) ⟨Nat.le_of_ble_eq_true rfl, Nat.le_of_ble_eq_true rfl, by show k + 7 ≤ 600192; omega, by show n + 11813 ≤ 7295879; omega⟩ (c_L_record hl hR hI q hqz 0 (Eq.symm (if_neg (nn hqS)))) (fun E h9 q => (QI_inl q).elim) (fun v9 h9 q => ?_)
  obtain ⟨e1, qf, q3⟩ := q
  cases e1
  rw [lw1_0]
  have hR2 := (q3.resolve_right (fun z => by omega)).2
  have hI42 := I4_record hI4 hqS.2
  have hbt2 := IBt_rec (s := q) hbt
  have eS : ∀ f9, (f9 < 31 ∨ 33 < f9) → ∀ j, recB S q f9 j = S f9 j := fun f9 hf j => recB_f hf
  have e31 := recB_31 (S := S) (s := q)
  have e32 := recB_32 (S := S) (s := q)
  have e33 := recB_33 (S := S) (s := q)
  generalize recB S q = S2 at hR2 hI42 hbt2 eS e31 e32 e33
  have hI2 := II_mk hI42 hbt2
  have hqS2 : isS S2 q := by unfold isS; rw [eS 1 (by decide)]; exact hqS
  refine e_if_lt (tgt := 890) dL_law_864 (by decide) (by omega) (fun c864 => by exfalso; omega) (fun c864 => ?_)
  refine e_aload_n dL_law_867 rfl rfl ?_
  refine e_iload dL_law_868 rfl ?_
  refine e_callH (As := [zR _, zI _]) dL_law_870 hoL_noted mlL_187 rfl (Nat.le_of_ble_eq_true rfl) ⟨Nat.le_of_ble_eq_true rfl, Nat.le_of_ble_eq_true rfl, by show k + 9 ≤ 600192; omega, by show n + 11825 ≤ 7295879; omega⟩ (c_L_noted hl hR2 hI2 q hqz 0 (Eq.symm (Eq.trans (if_neg (nn hqS2)) (if_neg (nn e31))))) (fun E h9 q => (QI_inl q).elim) (fun v9 h9 q => ?_)
  obtain ⟨e1, qf2, q3⟩ := q
  cases e1
  rw [lw2_0, e33]
  have hR3 := (q3.resolve_right (fun z => by omega)).2
  refine e_if_ne (tgt := 890) dL_law_873 (by decide) (by decide) (fun c873 => by exfalso; exact c873 rfl) (fun c873 => ?_)
  refine e_aload_n dL_law_876 rfl rfl ?_
  refine e_iload dL_law_877 rfl ?_
  refine e_iconst dL_law_879 ?_
  refine e_iconst dL_law_880 ?_
  refine e_iconst dL_law_881 ?_
  refine e_callH (As := [zR _, zI _, zI _, zI _, zI _]) dL_law_882 hoL_played mlL_189 rfl (Nat.le_of_ble_eq_true rfl) ⟨Nat.le_of_ble_eq_true rfl, Nat.le_of_ble_eq_true rfl, by show k + 12 ≤ 600192; omega, by show n + 11843 ≤ 7295879; omega⟩ (c_L_played hl hR3 hI2 q hqz 1 (by decide) 0 (by decide) 0 (by decide) 2 (Eq.symm (Eq.trans (if_neg (nn ⟨hqS2, ⟨by decide, by decide⟩, by decide, by decide⟩)) (if_pos (by rw [e32]; decide))))) (fun E h9 q => (QI_inl q).elim) (fun v9 h9 q => ?_)
  obtain ⟨e1, qf3, q3⟩ := q
  cases e1
  rw [lw2_2]
  have hR4 := (q3.resolve_left (fun z => by omega)).2
  refine e_ldcI (z := -3000000) dL_law_885 ctL_70 ?_
  refine e_icmp_eq (tgt := 1230) dL_law_887 (by decide) (by omega) (by omega) (fun c887 => ?_) (fun c887 => by exfalso; exact c887 rfl)
  have hJ2 := (LJ_st hJ (FQ_tr (FQ_tr qf qf2) qf3) hR4 (I4_le (show B ≤ B + 20000 by omega) hI42) (hbt2) (by omega) (fun f9 hf j => eS f9 (by omega) j) (HD_ag (fun f9 hf j => eS f9 (by omega) j) hd))
  refine e_mask [true, true, true, true, true, true, true, true, true, true, true, false, false, true, false, false, false, false, false, false] ?_
  refine e_wid (k + 100) (n + 13000) (by show k + 12 ≤ _; omega) (by show n + 11843 ≤ _; omega) ?_
  have z9 := K _ _ hJ2
  rw [eS 3 (by decide) 0] at z9
  exact z9
