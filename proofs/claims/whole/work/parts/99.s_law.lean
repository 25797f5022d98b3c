set_option maxHeartbeats 4000000 in
set_option maxRecDepth 100000 in
theorem cs_carried {l : Launch} (hl : l.stackTraces = false) {L : Nat} {f : Nat → Int32} {S : S9} {h : zH} {B i : Int} {k n : Nat} (hk : k + 10 ≤ 603072) (hn : n + 11813 ≤ 7207018) (hL0 : LI S B h) (K : ∀ S' h', LI S' (B + 2000) h' → AW l (MLW L f) QW (k + 10) (n + 11813) 2542 [zY, zR (some 2), zR (some 99), zR (some 6), zR (some 7), zI i, zX, zX, zX] [] h') : AW l (MLW L f) QW k n 1604 [zY, zR (some 2), zR (some 99), zR (some 6), zR (some 7), zI i, zX, zX, zX] [] h := by
  obtain ⟨hM, hR, hI4, h6, h7, hB0⟩ := hL0
  refine e_G (fun G => ?_)
  have hI := II_of G hM hI4
  refine e_aload_n dL_law_1604 rfl rfl ?_
  refine e_callV (As := []) (cb := 9) dL_law_1605 moX8_carried mvX8_carried mlL_202 (by decide) rfl (show zK h 2 = 9 + 1 from hR.1.1.1) rfl (Nat.le_of_ble_eq_true rfl) ⟨Nat.le_of_ble_eq_true rfl, Nat.le_of_ble_eq_true rfl, by show k + 0 ≤ 603072; omega, by show n + 0 ≤ 7207018; omega⟩ (c_X8_carried hl hR hI) (fun E h1 q => by cases q.1) (fun v9 h1 q => ?_)
  obtain ⟨e1, e2⟩ := q
  cases e1
  rw [e2]
  clear e2 h1
  refine e_aload_n dL_law_1608 rfl rfl ?_
  refine e_callV (As := []) (cb := 10) dL_law_1609 moX9_carried mvX9_carried mlL_206 (by decide) rfl hM.1 rfl (Nat.le_of_ble_eq_true rfl) ⟨Nat.le_of_ble_eq_true rfl, Nat.le_of_ble_eq_true rfl, by show k + 0 ≤ 603072; omega, by show n + 0 ≤ 7207018; omega⟩ (c_X9_carried hl hM) (fun E h1 q => by cases q.1) (fun v9 h2 q => ?_)
  obtain ⟨e1, hM2, -⟩ := q
  cases e1
  refine e_lcmp_eq dL_law_1612 rfl ?_
  refine e_if_eq (tgt := 2542) dL_law_1613 (by decide) (by decide) (fun _ => ?_) (fun c => absurd rfl c)
  refine e_wid (k + 10) (n + 11813) (by show k + 0 ≤ _; omega) (by show n + 0 ≤ _; omega) ?_
  exact K S h2 ⟨hM2.1, RC_99 hM2.2 hR, I4_le (by omega) hI4, ⟨(hM2.2 6 (by decide)).1.trans h6.1, (hM2.2 6 (by decide)).2.1.trans h6.2⟩, ⟨(hM2.2 7 (by decide)).1.trans h7.1, (hM2.2 7 (by decide)).2.1.trans h7.2⟩, by omega⟩
set_option maxHeartbeats 4000000 in
set_option maxRecDepth 100000 in
theorem cs_isConsistent {l : Launch} (hl : l.stackTraces = false) {L : Nat} {f : Nat → Int32} {S : S9} {h : zH} {B i : Int} {k n : Nat} (hk : k + 10 ≤ 603072) (hn : n + 11813 ≤ 7207018) (hL0 : LI S B h) (K : ∀ S' h', LI S' (B + 2000) h' → AW l (MLW L f) QW (k + 10) (n + 11813) 2542 [zY, zR (some 2), zR (some 99), zR (some 6), zR (some 7), zI i, zX, zX, zX] [] h') : AW l (MLW L f) QW k n 2529 [zY, zR (some 2), zR (some 99), zR (some 6), zR (some 7), zI i, zX, zX, zX] [] h := by
  obtain ⟨hM, hR, hI4, h6, h7, hB0⟩ := hL0
  refine e_G (fun G => ?_)
  have hI := II_of G hM hI4
  refine e_aload_n dL_law_2529 rfl rfl ?_
  refine e_callV (As := []) (cb := 9) dL_law_2530 moX8_isConsistent mvX8_isConsistent mlL_250 (by decide) rfl (show zK h 2 = 9 + 1 from hR.1.1.1) rfl (Nat.le_of_ble_eq_true rfl) ⟨Nat.le_of_ble_eq_true rfl, Nat.le_of_ble_eq_true rfl, by show k + 0 ≤ 603072; omega, by show n + 0 ≤ 7207018; omega⟩ (c_X8_isConsistent hl hR hI) (fun E h1 q => by cases q.1) (fun v9 h1 q => ?_)
  obtain ⟨e1, hR1, fr⟩ := q
  cases e1
  have hM1 := RM_fr (fun m m0 m1 => fr m (by omega)) hM
  refine e_aload_n dL_law_2533 rfl rfl ?_
  refine e_callV (As := []) (cb := 10) dL_law_2534 moX9_isConsistent mvX9_isConsistent mlL_254 (by decide) rfl hM1.1 rfl (Nat.le_of_ble_eq_true rfl) ⟨Nat.le_of_ble_eq_true rfl, Nat.le_of_ble_eq_true rfl, by show k + 0 ≤ 603072; omega, by show n + 0 ≤ 7207018; omega⟩ (c_X9_isConsistent hl hM1) (fun E h1 q => by cases q.1) (fun v9 h2 q => ?_)
  obtain ⟨e1, hM2, -⟩ := q
  cases e1
  refine e_icmp_eq (tgt := 2542) dL_law_2537 (by decide) (by decide) (by decide) (fun _ => ?_) (fun c => absurd rfl c)
  refine e_wid (k + 10) (n + 11813) (by show k + 0 ≤ _; omega) (by show n + 0 ≤ _; omega) ?_
  exact K S h2 ⟨hM2.1, RC_99 hM2.2 hR1, I4_le (by omega) hI4, ⟨((hM2.2 6 (by decide)).1.trans (fr 6 (by decide)).1).trans h6.1, ((hM2.2 6 (by decide)).2.1.trans (fr 6 (by decide)).2.1).trans h6.2⟩, ⟨((hM2.2 7 (by decide)).1.trans (fr 7 (by decide)).1).trans h7.1, ((hM2.2 7 (by decide)).2.1.trans (fr 7 (by decide)).2.1).trans h7.2⟩, by omega⟩
set_option maxHeartbeats 4000000 in
set_option maxRecDepth 100000 in
theorem law_loop {l : Launch} (hl : l.stackTraces = false) (hG : GMore l) {L : Nat} {f : Nat → Int32} (hL : L ≤ 4096) : ∀ (r : Nat) (S : S9) (h : zH) (B i : Int) (k n : Nat), 0 ≤ i → i ≤ L → (L : Int) < i + 8 * (r + 1) → k + 10 * r ≤ 603072 → n + 11813 * r ≤ 7207018 → B + 2000 * r ≤ 800000000 → LI S B h → AW l (MLW L f) QW k n 28 [zY, zR (some 2), zR (some 99), zR (some 6), zR (some 7), zI i, zX, zX, zX] [] h := by
  intro r
  induction r with
  | zero =>
    intro S h B i k n i0 iL hr hk hn hB hI
    refine e_iload dL_law_28 rfl ?_
    refine e_aloadY dL_law_30 rfl rfl ?_
    refine e_slen (L := L) (f := f) rfl dL_law_31 ?_
    refine e_bipush dL_law_32 (by decide) ?_
    refine e_isub dL_law_34 ?_
    refine e_icmp_gt (tgt := 2548) dL_law_35 (by decide) (by omega) (by omega) (fun _ => ?_) (fun c => ?_)
    · refine e_iconst dL_law_2548 ?_
      exact e_iret dL_law_2549 rfl (Or.inr rfl) (by show k ≤ 603072; omega) (by show n ≤ 7207018; omega) rfl
    · exfalso; omega
  | succ r ih =>
    intro S h B i k n i0 iL hr hk hn hB hI
    refine e_iload dL_law_28 rfl ?_
    refine e_aloadY dL_law_30 rfl rfl ?_
    refine e_slen (L := L) (f := f) rfl dL_law_31 ?_
    refine e_bipush dL_law_32 (by decide) ?_
    refine e_isub dL_law_34 ?_
    refine e_icmp_gt (tgt := 2548) dL_law_35 (by decide) (by omega) (by omega) (fun _ => ?_) (fun c => ?_)
    · refine e_iconst dL_law_2548 ?_
      exact e_iret dL_law_2549 rfl (Or.inr rfl) (by show k ≤ 603072; omega) (by show n ≤ 7207018; omega) rfl
    have i8 : i + 8 ≤ L := by omega
    have hk1 : k + 10 ≤ 603072 := by omega
    have hn1 : n + 11813 ≤ 7207018 := by omega
    have hB1 : B ≤ 800000000 := by omega
    have K : ∀ S' h', LI S' (B + 2000) h' → AW l (MLW L f) QW (k + 10) (n + 11813) 2542 [zY, zR (some 2), zR (some 99), zR (some 6), zR (some 7), zI i, zX, zX, zX] [] h' := by
      intro S' h' q
      refine e_iinc (ls2 := [zY, zR (some 2), zR (some 99), zR (some 6), zR (some 7), zI (i + 8), zX, zX, zX]) dL_law_2542 (Nat.le_of_ble_eq_true rfl) rfl rfl rfl rfl ?_
      refine e_goto (tgt := 28) dL_law_2545 (by decide) ?_
      exact ih S' h' (B + 2000) (i + 8) (k + 10) (n + 11813) (by omega) (by omega) (by omega) (by omega) (by omega) (by omega) q
    refine e_aloadY dL_law_38 rfl rfl ?_
    refine e_iload dL_law_39 rfl ?_
    refine e_sld (L := L) (f := f) rfl dL_law_41 (by omega) (by omega) (fun y9 => ?_)
    refine e_bipush dL_law_42 (by decide) ?_
    refine e_iand dL_law_44 (Int32.ofInt_toInt _).symm ?_
    have h63 := and63 (Int32.ofInt (f i.toNat).toInt)
    rw [show (Int32.ofInt 63 : Int32) = 63 from rfl]
    generalize (Int32.ofInt (f i.toNat).toInt &&& 63).toInt = c9 at h63 ⊢
    have hc9 : c9 = 0 ∨ c9 = 1 ∨ c9 = 2 ∨ c9 = 3 ∨ c9 = 4 ∨ c9 = 5 ∨ c9 = 6 ∨ c9 = 7 ∨ c9 = 8 ∨ c9 = 9 ∨ c9 = 10 ∨ c9 = 11 ∨ c9 = 12 ∨ c9 = 13 ∨ c9 = 14 ∨ c9 = 15 ∨ c9 = 16 ∨ c9 = 17 ∨ c9 = 18 ∨ c9 = 19 ∨ c9 = 20 ∨ c9 = 21 ∨ c9 = 22 ∨ c9 = 23 ∨ c9 = 24 ∨ c9 = 25 ∨ c9 = 26 ∨ c9 = 27 ∨ c9 = 28 ∨ c9 = 29 ∨ c9 = 30 ∨ c9 = 31 ∨ c9 = 32 ∨ 33 ≤ c9 := by omega
    rcases hc9 with hc9 | hc9 | hc9 | hc9 | hc9 | hc9 | hc9 | hc9 | hc9 | hc9 | hc9 | hc9 | hc9 | hc9 | hc9 | hc9 | hc9 | hc9 | hc9 | hc9 | hc9 | hc9 | hc9 | hc9 | hc9 | hc9 | hc9 | hc9 | hc9 | hc9 | hc9 | hc9 | hc9 | hc9
    · rw [hc9]
      refine e_tin (off := 147) (tgt := 192) dL_law_45 (by decide) (by decide) (by decide) rfl (by decide) ?_
      exact cs_openSession hl hG i0 i8 hk1 hn1 hB1 hI K
    · rw [hc9]
      refine e_tin (off := 191) (tgt := 236) dL_law_45 (by decide) (by decide) (by decide) rfl (by decide) ?_
      exact cs_openWindow hl hG i0 i8 hk1 hn1 hB1 hI K
    · rw [hc9]
      refine e_tin (off := 295) (tgt := 340) dL_law_45 (by decide) (by decide) (by decide) rfl (by decide) ?_
      exact cs_closeWindow hl hG i0 i8 hk1 hn1 hB1 hI K
    · rw [hc9]
      refine e_tin (off := 370) (tgt := 415) dL_law_45 (by decide) (by decide) (by decide) rfl (by decide) ?_
      exact cs_moveWindow hl hG i0 i8 hk1 hn1 hB1 hI K
    · rw [hc9]
      refine e_tin (off := 462) (tgt := 507) dL_law_45 (by decide) (by decide) (by decide) rfl (by decide) ?_
      exact cs_raise hl hG i0 i8 hk1 hn1 hB1 hI K
    · rw [hc9]
      refine e_tin (off := 537) (tgt := 582) dL_law_45 (by decide) (by decide) (by decide) rfl (by decide) ?_
      exact cs_show hl hG i0 i8 hk1 hn1 hB1 hI K
    · rw [hc9]
      refine e_tin (off := 640) (tgt := 685) dL_law_45 (by decide) (by decide) (by decide) rfl (by decide) ?_
      exact cs_mark hl hG i0 i8 hk1 hn1 hB1 hI K
    · rw [hc9]
      refine e_tin (off := 771) (tgt := 816) dL_law_45 (by decide) (by decide) (by decide) rfl (by decide) ?_
      exact cs_draw hl hG i0 i8 hk1 hn1 hB1 hI K
    · rw [hc9]
      refine e_tin (off := 903) (tgt := 948) dL_law_45 (by decide) (by decide) (by decide) rfl (by decide) ?_
      exact cs_screen hl hG i0 i8 hk1 hn1 hB1 hI K
    · rw [hc9]
      refine e_tin (off := 983) (tgt := 1028) dL_law_45 (by decide) (by decide) (by decide) rfl (by decide) ?_
      exact cs_join hl hG i0 i8 hk1 hn1 hB1 hI K
    · rw [hc9]
      refine e_tin (off := 1051) (tgt := 1096) dL_law_45 (by decide) (by decide) (by decide) rfl (by decide) ?_
      exact cs_bid hl hG i0 i8 hk1 hn1 hB1 hI K
    · rw [hc9]
      refine e_tin (off := 1119) (tgt := 1164) dL_law_45 (by decide) (by decide) (by decide) rfl (by decide) ?_
      exact cs_money hl hG i0 i8 hk1 hn1 hB1 hI K
    · rw [hc9]
      refine e_tin (off := 1175) (tgt := 1220) dL_law_45 (by decide) (by decide) (by decide) rfl (by decide) ?_
      exact cs_picture hl hG i0 i8 hk1 hn1 hB1 hI K
    · rw [hc9]
      refine e_tin (off := 1255) (tgt := 1300) dL_law_45 (by decide) (by decide) (by decide) rfl (by decide) ?_
      exact cs_seen hl hG i0 i8 hk1 hn1 hB1 hI K
    · rw [hc9]
      refine e_tin (off := 1335) (tgt := 1380) dL_law_45 (by decide) (by decide) (by decide) rfl (by decide) ?_
      exact cs_behind hl hG i0 i8 hk1 hn1 hB1 hI K
    · rw [hc9]
      refine e_tin (off := 1391) (tgt := 1436) dL_law_45 (by decide) (by decide) (by decide) rfl (by decide) ?_
      exact cs_next hl hG i0 i8 hk1 hn1 hB1 hI K
    · rw [hc9]
      refine e_tin (off := 1447) (tgt := 1492) dL_law_45 (by decide) (by decide) (by decide) rfl (by decide) ?_
      exact cs_nextCost hl hG i0 i8 hk1 hn1 hB1 hI K
    · rw [hc9]
      refine e_tin (off := 1503) (tgt := 1548) dL_law_45 (by decide) (by decide) (by decide) rfl (by decide) ?_
      exact cs_tick hl hG i0 i8 hk1 hn1 hB1 hI K
    · rw [hc9]
      refine e_tin (off := 1559) (tgt := 1604) dL_law_45 (by decide) (by decide) (by decide) rfl (by decide) ?_
      exact cs_carried hl hk1 hn1 hI K
    · rw [hc9]
      refine e_tin (off := 1573) (tgt := 1618) dL_law_45 (by decide) (by decide) (by decide) rfl (by decide) ?_
      exact cs_type hl hG i0 i8 hk1 hn1 hB1 hI K
    · rw [hc9]
      refine e_tin (off := 1643) (tgt := 1688) dL_law_45 (by decide) (by decide) (by decide) rfl (by decide) ?_
      exact cs_guesses hl hG i0 i8 hk1 hn1 hB1 hI K
    · rw [hc9]
      refine e_tin (off := 1699) (tgt := 1744) dL_law_45 (by decide) (by decide) (by decide) rfl (by decide) ?_
      exact cs_rightShare hl hG i0 i8 hk1 hn1 hB1 hI K
    · rw [hc9]
      refine e_tin (off := 1777) (tgt := 1822) dL_law_45 (by decide) (by decide) (by decide) rfl (by decide) ?_
      exact cs_copy hl hG i0 i8 hk1 hn1 hB1 hI K
    · rw [hc9]
      refine e_tin (off := 1857) (tgt := 1902) dL_law_45 (by decide) (by decide) (by decide) rfl (by decide) ?_
      exact cs_allow hl hG i0 i8 hk1 hn1 hB1 hI K
    · rw [hc9]
      refine e_tin (off := 1972) (tgt := 2017) dL_law_45 (by decide) (by decide) (by decide) rfl (by decide) ?_
      exact cs_paste hl hG i0 i8 hk1 hn1 hB1 hI K
    · rw [hc9]
      refine e_tin (off := 2040) (tgt := 2085) dL_law_45 (by decide) (by decide) (by decide) rfl (by decide) ?_
      exact cs_move hl hG i0 i8 hk1 hn1 hB1 hI K
    · rw [hc9]
      refine e_tin (off := 2103) (tgt := 2148) dL_law_45 (by decide) (by decide) (by decide) rfl (by decide) ?_
      exact cs_left hl hG i0 i8 hk1 hn1 hB1 hI K
    · rw [hc9]
      refine e_tin (off := 2159) (tgt := 2204) dL_law_45 (by decide) (by decide) (by decide) rfl (by decide) ?_
      exact cs_host hl hG i0 i8 hk1 hn1 hB1 hI K
    · rw [hc9]
      refine e_tin (off := 2215) (tgt := 2260) dL_law_45 (by decide) (by decide) (by decide) rfl (by decide) ?_
      exact cs_record hl hG i0 i8 hk1 hn1 hB1 hI K
    · rw [hc9]
      refine e_tin (off := 2271) (tgt := 2316) dL_law_45 (by decide) (by decide) (by decide) rfl (by decide) ?_
      exact cs_played hl hG i0 i8 hk1 hn1 hB1 hI K
    · rw [hc9]
      refine e_tin (off := 2363) (tgt := 2408) dL_law_45 (by decide) (by decide) (by decide) rfl (by decide) ?_
      exact cs_noted hl hG i0 i8 hk1 hn1 hB1 hI K
    · rw [hc9]
      refine e_tin (off := 2419) (tgt := 2464) dL_law_45 (by decide) (by decide) (by decide) rfl (by decide) ?_
      exact cs_meanBehind hl hG i0 i8 hk1 hn1 hB1 hI K
    · rw [hc9]
      refine e_tin (off := 2484) (tgt := 2529) dL_law_45 (by decide) (by decide) (by decide) rfl (by decide) ?_
      exact cs_isConsistent hl hk1 hn1 hI K
    · refine e_tout (tgt := 2542) dL_law_45 ⟨by omega, by omega⟩ (Or.inr (by omega)) (by decide) ?_
      refine e_wid (k + 10) (n + 11813) (by omega) (by omega) ?_
      obtain ⟨hM, hR, hI4, h6, h7, hB0⟩ := hI
      exact K S h ⟨hM, hR, I4_le (by omega) hI4, h6, h7, by omega⟩
