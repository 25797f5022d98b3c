/-! p36: the law, a turn, the turns, the end, the beginning -/
set_option maxHeartbeats 4000000 in
set_option maxRecDepth 100000 in
/-- the last answers -/
theorem law_fin {l : Launch} (hl : l.stackTraces = false) (hG : GMore l) {L : Nat} {f : Nat → Int32} (hL : L ≤ 260) {ns nc : Int} (hns : 1 ≤ ns ∧ ns ≤ 4) (hnc : 1 ≤ nc ∧ nc ≤ 6) {S : S9} {h : zH} {B i : Int} {k n : Nat} (hk : k + 20 ≤ 600192) (hn : n + 100 ≤ 7295879) (hR : RC S h) (hI : II S B) (hb1 : S 1 0 = ns) (hb2 : S 2 0 = nc) : AW l (MLW L f) QW k n 1420 [zY, zR (some 2), zI ns, zI nc, zR (some 6), zR (some 7), zR (some 99), zX, zX, zI (i), zX, zX, zX, zX, zX, zX, zX, zX, zX, zX] [] h := by
  have hnz : zin ns := ⟨by omega, by omega⟩
  have hcz : zin nc := ⟨by omega, by omega⟩
  refine e_aload_n dL_law_1420 rfl rfl ?_
  refine e_callV (As := []) (cb := 9) dL_law_1421 moX8_isConsistent mvX8_isConsistent mlL_209 (by decide) rfl (show zK _ 2 = 9 + 1 from hR.1.1.1) rfl (Nat.le_of_ble_eq_true rfl) ⟨Nat.le_of_ble_eq_true rfl, Nat.le_of_ble_eq_true rfl, by show k + 0 ≤ 600192; omega, by show n + 0 ≤ 7295879; omega⟩ (c_X8_isConsistent hl hR hI) (fun E h9 q => by cases q.1) (fun v9 h9 q => ?_)
  obtain ⟨e1, hR2, -⟩ := q
  cases e1
  refine e_if_eq (tgt := 1453) dL_law_1424 (by decide) (by decide) (fun c1424 => by exfalso; omega) (fun c1424 => ?_)
  refine e_aload_n dL_law_1427 rfl rfl ?_
  refine e_iload_n dL_law_1428 rfl rfl ?_
  refine e_iconst dL_law_1429 ?_
  refine e_iconst dL_law_1430 ?_
  refine e_callH (As := [zR _, zI _, zI _, zI _]) dL_law_1431 hoL_screen mlL_139 rfl (Nat.le_of_ble_eq_true rfl) ⟨Nat.le_of_ble_eq_true rfl, Nat.le_of_ble_eq_true rfl, by show k + 2 ≤ 600192; omega, by show n + 12 ≤ 7295879; omega⟩ (c_L_screen hl hR2 hI ns hnz 0 (by decide) 0 (by decide) 1 (Eq.symm (if_pos (fun z => by have z2 := z.1.2; omega)))) (fun E h9 q => (QI_inl q).elim) (fun v9 h9 q => ?_)
  obtain ⟨e1, qf, hR3⟩ := QI_all q
  clear q
  cases e1
  rw [lw1_1]
  refine e_ldcI (z := -2500000) dL_law_1434 ctL_28 ?_
  refine e_icmp_ne (tgt := 1453) dL_law_1436 (by decide) (by decide) (by decide) (fun c1436 => by exfalso; exact c1436 rfl) (fun c1436 => ?_)
  refine e_aload_n dL_law_1439 rfl rfl ?_
  refine e_iload_n dL_law_1440 rfl rfl ?_
  refine e_callH (As := [zR _, zI _]) dL_law_1441 hoL_money mlL_143 rfl (Nat.le_of_ble_eq_true rfl) ⟨Nat.le_of_ble_eq_true rfl, Nat.le_of_ble_eq_true rfl, by show k + 3 ≤ 600192; omega, by show n + 18 ≤ 7295879; omega⟩ (c_L_money hl hR3 hI nc hcz 1 (Eq.symm (if_pos (fun z => by have z2 := z.2; omega)))) (fun E h9 q => (QI_inl q).elim) (fun v9 h9 q => ?_)
  obtain ⟨e1, qf2, hR4⟩ := QI_all q
  clear q
  cases e1
  rw [lw1_1]
  refine e_ldcI (z := -2500000) dL_law_1444 ctL_28 ?_
  refine e_icmp_ne (tgt := 1453) dL_law_1446 (by decide) (by decide) (by decide) (fun c1446 => by exfalso; exact c1446 rfl) (fun c1446 => ?_)
  refine e_iconst dL_law_1449 ?_
  refine e_goto (tgt := 1454) dL_law_1450 (by decide) ?_
  refine e_iret dL_law_1454 rfl (Or.inr rfl) (by show k + 3 ≤ 600192; omega) (by show n + 18 ≤ 7295879; omega) ?_
  rfl
set_option maxHeartbeats 4000000 in
set_option maxRecDepth 100000 in
/-- the sessions at the end -/
theorem law_ses {l : Launch} (hl : l.stackTraces = false) (hG : GMore l) {L : Nat} {f : Nat → Int32} (hL : L ≤ 260) {ns nc : Int} (hns : 1 ≤ ns ∧ ns ≤ 4) (hnc : 1 ≤ nc ∧ nc ≤ 6) {S : S9} {B : Int} (hI : II S B) (hb1 : S 1 0 = ns) (hb2 : S 2 0 = nc) (hmv : ∀ s, isS S s → S 26 s ≠ 1) : ∀ (d : Nat) {h : zH} {i : Int} {k n : Nat}, i + d = ns → 0 ≤ i → k + 10 * d + 40 ≤ 600192 → n + 100 * d + 200 ≤ 7295879 → RC S h → AW l (MLW L f) QW k n 1395 [zY, zR (some 2), zI ns, zI nc, zR (some 6), zR (some 7), zR (some 99), zX, zX, zI (i), zX, zX, zX, zX, zX, zX, zX, zX, zX, zX] [] h
  | 0, h, i, k, n, hd, hi, hk, hn, hR => by
    refine e_iload dL_law_1395 rfl ?_
    refine e_iload_n dL_law_1397 rfl rfl ?_
    refine e_icmp_ge (tgt := 1420) dL_law_1398 (by decide) (by omega) (by omega) (fun c1398 => ?_) (fun c1398 => by exfalso; omega)
    exact law_fin hl hG hL hns hnc (by omega) (by omega) hR hI hb1 hb2
  | d + 1, h, i, k, n, hd, hi, hk, hn, hR => by
    have hiz : zin i := ⟨by omega, by omega⟩
    have hiS : isS S i := ⟨by omega, by omega⟩
    refine e_iload dL_law_1395 rfl ?_
    refine e_iload_n dL_law_1397 rfl rfl ?_
    refine e_icmp_ge (tgt := 1420) dL_law_1398 (by decide) (by omega) (by omega) (fun c1398 => by exfalso; omega) (fun c1398 => ?_)
    refine e_aload_n dL_law_1401 rfl rfl ?_
    refine e_iload dL_law_1402 rfl ?_
    refine e_callH (As := [zR _, zI _]) dL_law_1404 hoL_left mlL_181 rfl (Nat.le_of_ble_eq_true rfl) ⟨Nat.le_of_ble_eq_true rfl, Nat.le_of_ble_eq_true rfl, by show k + 2 ≤ 600192; omega, by show n + 12 ≤ 7295879; omega⟩ (c_L_left hl hR hI i hiz 2 (Eq.symm (Eq.trans (if_neg (nn hiS)) (if_pos (hmv i hiS))))) (fun E h9 q => (QI_inl q).elim) (fun v9 h9 q => ?_)
    obtain ⟨e1, qf, hR2⟩ := QI_all q
    clear q
    cases e1
    rw [lw2_2]
    refine e_ldcI (z := -1000000) dL_law_1407 ctL_21 ?_
    refine e_icmp_eq (tgt := 1414) dL_law_1409 (by decide) (by decide) (by decide) (fun c1409 => ?_) (fun c1409 => by exfalso; exact c1409 rfl)
    refine e_iinc dL_law_1414 (Nat.le_of_ble_eq_true rfl) rfl rfl rfl rfl ?_
    refine e_goto (tgt := 1395) dL_law_1417 (by decide) ?_
    refine e_wid (k + 10) (n + 100) (by show k + 2 ≤ _; omega) (by show n + 12 ≤ _; omega) ?_
    exact law_ses hl hG hL hns hnc hI hb1 hb2 hmv d (by omega) (by omega) (by omega) (by omega) hR2
set_option maxHeartbeats 4000000 in
set_option maxRecDepth 100000 in
/-- the clients at the end -/
theorem law_cli {l : Launch} (hl : l.stackTraces = false) (hG : GMore l) {L : Nat} {f : Nat → Int32} (hL : L ≤ 260) {ns nc : Int} (hns : 1 ≤ ns ∧ ns ≤ 4) (hnc : 1 ≤ nc ∧ nc ≤ 6) {S : S9} {B : Int} (hI : II S B) (hb1 : S 1 0 = ns) (hb2 : S 2 0 = nc) (hmv : ∀ s, isS S s → S 26 s ≠ 1) (hcl : ∀ c, isC S c → cntB S c = 0 ∧ gues S c = 0) : ∀ (d : Nat) {h : zH} {i : Int} {k n : Nat}, i + d = nc → 0 ≤ i → k + 10 * d + 100 ≤ 600192 → n + 100 * d + 800 ≤ 7295879 → RC S h → AW l (MLW L f) QW k n 1360 [zY, zR (some 2), zI ns, zI nc, zR (some 6), zR (some 7), zR (some 99), zX, zX, zI (i), zX, zX, zX, zX, zX, zX, zX, zX, zX, zX] [] h
  | 0, h, i, k, n, hd, hi, hk, hn, hR => by
    refine e_iload dL_law_1360 rfl ?_
    refine e_iload_n dL_law_1362 rfl rfl ?_
    refine e_icmp_ge (tgt := 1392) dL_law_1363 (by decide) (by omega) (by omega) (fun c1363 => ?_) (fun c1363 => by exfalso; omega)
    refine e_iconst dL_law_1392 ?_
    refine e_istore dL_law_1393 (Nat.le_of_ble_eq_true rfl) rfl rfl ?_
    exact law_ses hl hG hL hns hnc hI hb1 hb2 hmv ns.toNat (by omega) (by omega) (by omega) (by omega) hR
  | d + 1, h, i, k, n, hd, hi, hk, hn, hR => by
    have hiz : zin i := ⟨by omega, by omega⟩
    have hiC : isC S i := ⟨by omega, by omega⟩
    obtain ⟨z1, z2⟩ := hcl i hiC
    refine e_iload dL_law_1360 rfl ?_
    refine e_iload_n dL_law_1362 rfl rfl ?_
    refine e_icmp_ge (tgt := 1392) dL_law_1363 (by decide) (by omega) (by omega) (fun c1363 => by exfalso; omega) (fun c1363 => ?_)
    refine e_aload_n dL_law_1366 rfl rfl ?_
    refine e_iload dL_law_1367 rfl ?_
    refine e_callH (As := [zR _, zI _]) dL_law_1369 hoL_behind mlL_141 rfl (Nat.le_of_ble_eq_true rfl) ⟨Nat.le_of_ble_eq_true rfl, Nat.le_of_ble_eq_true rfl, by show k + 1 ≤ 600192; omega, by show n + 6 ≤ 7295879; omega⟩ (c_L_behind hl hR hI i hiz 0 (Eq.symm (if_neg (nn hiC)))) (fun E h9 q => (QI_inl q).elim) (fun v9 h9 q => ?_)
    obtain ⟨e1, qf, hR2⟩ := QI_all q
    clear q
    cases e1
    rw [lw1_0, z1]
    refine e_if_ne (tgt := 1384) dL_law_1372 (by decide) (by decide) (fun c1372 => by exfalso; exact c1372 rfl) (fun c1372 => ?_)
    refine e_aload_n dL_law_1375 rfl rfl ?_
    refine e_iload dL_law_1376 rfl ?_
    refine e_callH (As := [zR _, zI _]) dL_law_1378 hoL_guesses mlL_176 rfl (Nat.le_of_ble_eq_true rfl) ⟨Nat.le_of_ble_eq_true rfl, Nat.le_of_ble_eq_true rfl, by show k + 2 ≤ 600192; omega, by show n + 12 ≤ 7295879; omega⟩ (c_L_guesses hl hR2 hI i hiz 0 (Eq.symm (if_neg (nn hiC)))) (fun E h9 q => (QI_inl q).elim) (fun v9 h9 q => ?_)
    obtain ⟨e1, qf2, hR3⟩ := QI_all q
    clear q
    cases e1
    rw [lw1_0, z2]
    refine e_if_eq (tgt := 1386) dL_law_1381 (by decide) (by decide) (fun c1381 => ?_) (fun c1381 => by exfalso; exact c1381 rfl)
    refine e_iinc dL_law_1386 (Nat.le_of_ble_eq_true rfl) rfl rfl rfl rfl ?_
    refine e_goto (tgt := 1360) dL_law_1389 (by decide) ?_
    refine e_wid (k + 10) (n + 100) (by show k + 2 ≤ _; omega) (by show n + 12 ≤ _; omega) ?_
    exact law_cli hl hG hL hns hnc hI hb1 hb2 hmv hcl d (by omega) (by omega) (by omega) (by omega) hR3
set_option maxHeartbeats 4000000 in
set_option maxRecDepth 100000 in
/-- the ticks at the end -/
theorem law_tks {l : Launch} (hl : l.stackTraces = false) (hG : GMore l) {L : Nat} {f : Nat → Int32} (hL : L ≤ 260) {ns nc : Int} (hns : 1 ≤ ns ∧ ns ≤ 4) (hnc : 1 ≤ nc ∧ nc ≤ 6) {B : Int} (hB0 : 0 ≤ B) (hB9 : B ≤ 1000000) : ∀ (d : Nat) {S : S9} {h : zH} {i : Int} {k n : Nat}, i + d = 6 → 0 ≤ i → k + 10 * d + 200 ≤ 600192 → n + 100 * d + 2000 ≤ 7295879 → RC S h → I4 S (B + 2000 * i) → IBt S → ES (20 * i) S → S 1 0 = ns → S 2 0 = nc → AW l (MLW L f) QW k n 1333 [zY, zR (some 2), zI ns, zI nc, zR (some 6), zR (some 7), zR (some 99), zX, zX, zI (i), zX, zX, zX, zX, zX, zX, zX, zX, zX, zX] [] h
  | 0, S, h, i, k, n, hd, hi, hk, hn, hR, hI4, hbt, hE, hb1, hb2 => by
    refine e_iload dL_law_1333 rfl ?_
    refine e_bipush dL_law_1335 (by decide) ?_
    refine e_icmp_ge (tgt := 1357) dL_law_1337 (by decide) (by omega) (by omega) (fun c1337 => ?_) (fun c1337 => by exfalso; omega)
    refine e_iconst dL_law_1357 ?_
    refine e_istore dL_law_1358 (Nat.le_of_ble_eq_true rfl) rfl rfl ?_
    have e6 : i = 6 := by omega
    subst e6
    have hE2 : ES 120 S := hE
    obtain ⟨z1, z2⟩ := ES_end hI4.1 hE2
    exact law_cli hl hG hL hns hnc (II_mk hI4 hbt) hb1 hb2 z2 z1 nc.toNat (by omega) (by omega) (by omega) (by omega) hR
  | d + 1, S, h, i, k, n, hd, hi, hk, hn, hR, hI4, hbt, hE, hb1, hb2 => by
    have hI := II_mk hI4 hbt
    have hv := tikV_in (S := S) (20 : Int).toNat
    rw [show (((20 : Int).toNat : Nat) : Int) = 20 from rfl] at hv
    have hv2 : 0 ≤ tikV S (20 : Int).toNat ∧ tikV S (20 : Int).toNat ≤ 480 := ⟨hv.1, by omega⟩
    clear hv
    refine e_iload dL_law_1333 rfl ?_
    refine e_bipush dL_law_1335 (by decide) ?_
    refine e_icmp_ge (tgt := 1357) dL_law_1337 (by decide) (by omega) (by omega) (fun c1337 => by exfalso; omega) (fun c1337 => ?_)
    refine e_aload_n dL_law_1340 rfl rfl ?_
    refine e_bipush dL_law_1341 (by decide) ?_
    refine e_callH (As := [zR _, zI _]) dL_law_1343 hoL_tick mlL_195 rfl (Nat.le_of_ble_eq_true rfl) ⟨Nat.le_of_ble_eq_true rfl, Nat.le_of_ble_eq_true rfl, by show k + 1 ≤ 600192; omega, by show n + 6 ≤ 7295879; omega⟩ (c_L_tick hl hR hI 20 (by decide) ⟨by omega, by omega⟩ 0 (Eq.symm (if_neg (nn ⟨by decide, by decide⟩)))) (fun E h9 q => (QI_inl q).elim) (fun v9 h9 q => ?_)
    obtain ⟨e1, qf, q3⟩ := q
    cases e1
    rw [lw1_0]
    have hR2 := (q3.resolve_right (fun z => by omega)).2
    generalize tikV S (20 : Int).toNat = tv at hv2 ⊢
    refine e_if_ge (tgt := 1351) dL_law_1346 (by decide) (by omega) (fun c1346 => ?_) (fun c1346 => by exfalso; omega)
    refine e_iinc dL_law_1351 (Nat.le_of_ble_eq_true rfl) rfl rfl rfl rfl ?_
    refine e_goto (tgt := 1333) dL_law_1354 (by decide) ?_
    refine e_wid (k + 10) (n + 100) (by show k + 1 ≤ _; omega) (by show n + 6 ≤ _; omega) ?_
    exact law_tks hl hG hL hns hnc hB0 hB9 d (by omega) (by omega) (by omega) (by omega) hR2 (I4_le (by omega) (I4_tick hI4 (by omega))) (IBt_tikS hbt) ((show 20 * i + 20 = 20 * (i + 1) by omega) ▸ ES_tikS hI4.1 hE) (((up_f (by decide)).trans (tikN_f (by omega) _)).trans hb1) (((up_f (by decide)).trans (tikN_f (by omega) _)).trans hb2)
set_option maxHeartbeats 4000000 in
set_option maxRecDepth 100000 in
/-- the end of a turn -/
theorem turn_end {l : Launch} (hl : l.stackTraces = false) (hG : GMore l) {L : Nat} {f : Nat → Int32} (hL : L ≤ 260) {ns nc : Int} (hns : 1 ≤ ns ∧ ns ≤ 4) (hnc : 1 ≤ nc ∧ nc ≤ 6) {S : S9} {h : zH} {B turn at9 c : Int} {k n : Nat} (hk : k + 900 ≤ 600192) (hn : n + 7000 ≤ 7295879) (hJ : LJ S B ns nc h) (hc : 0 ≤ c ∧ c < nc) (ha : 0 ≤ at9 ∧ at9 ≤ 330) (K : ∀ S' h', LJ S' B ns nc h' → AW l (MLW L f) QW (k + 900) (n + 7000) 137 [zY, zR (some 2), zI ns, zI nc, zR (some 6), zR (some 7), zR (some 99), zL (S' 3 0), zX, zI (turn + 1), zX, zX, zX, zX, zX, zX, zX, zX, zX, zX] [] h') : AW l (MLW L f) QW k n 1230 [zY, zR (some 2), zI ns, zI nc, zR (some 6), zR (some 7), zR (some 99), zL (S 3 0), zX, zI turn, zI at9, zX, zX, zI c, zX, zX, zX, zX, zX, zX] [] h := by
  obtain ⟨hR, hI4, hbt, hB0, ⟨⟨hb1, hb2⟩, ⟨r1, r2, r3⟩, ⟨w1, w2, w3⟩, d1, d2⟩, hd⟩ := id hJ
  have hI := II_mk hI4 hbt
  have hcC : isC S c := ⟨by omega, by omega⟩
  have hcz : zin c := ⟨by omega, by omega⟩
  obtain ⟨hc0, hc1⟩ := hc
  obtain ⟨ha0, ha1⟩ := ha
  have hcs := hI4.1.2.2.2.1 c hcC.1 hcC.2
  have n1 := hI4.1.1.2.1
  have hb36 := hI4.2.2.1.2.2 c hcC.1 hcC.2
  have y4_12 := smv_in (L := L) (f := f) (k := at9 + 4) (n := 12) (by omega)
  have y5_8 := smv_in (L := L) (f := f) (k := at9 + 5) (n := 8) (by omega)
  have y6_10 := smv_in (L := L) (f := f) (k := at9 + 6) (n := 10) (by omega)
  obtain ⟨x9, hx9⟩ : ∃ x9 : Int, x9 = smv L f (at9 + 4) 12 := ⟨_, rfl⟩
  obtain ⟨u9, hu9⟩ : ∃ u9 : Int, u9 = smv L f (at9 + 5) 8 := ⟨_, rfl⟩
  obtain ⟨b9, hb9⟩ : ∃ b9 : Int, b9 = smv L f (at9 + 6) 10 := ⟨_, rfl⟩
  have hxr : 0 ≤ x9 ∧ x9 < 12 := by omega
  have hur : 0 ≤ u9 ∧ u9 < 8 := by omega
  have hbr : 0 ≤ b9 ∧ b9 ≤ 9 := by omega
  have hxz : zin x9 := ⟨by omega, by omega⟩
  have huz : zin u9 := ⟨by omega, by omega⟩
  have hbz : zin b9 := ⟨by omega, by omega⟩
  have hXY : isXY x9 u9 := ⟨⟨by omega, by omega⟩, by omega, by omega⟩
  have hp1 : hadP h (S 40 (96 * c + (u9 * 12 + x9))) := hd.2.2.1 _ (by omega) (by omega)
  have hp2 : hadP h (seen S c (u9 * 12 + x9)) := seen_H hI4.1 hd hcC (by omega) (by omega)
  have hcol : ∀ p, 0 ≤ p → p < 96 → (0 ≤ S 40 (96 * c + p) ∧ S 40 (96 * c + p) < 256) ∧ 0 ≤ screenAt S (S 35 c) p ∧ screenAt S (S 35 c) p < 256 := fun p p0 p1 => ⟨(hd.2.2.1 (96 * c + p) (by omega) (by omega)).1, (screen_H hI4.1 hd hcs.1 (by have := hcs.2; omega)).1⟩
  refine e_aload_n dL_law_1230 rfl rfl ?_
  refine e_iload dL_law_1231 rfl ?_
  refine e_aload dL_law_1233 rfl ?_
  refine e_iload dL_law_1235 rfl ?_
  refine e_iald dL_law_1237 r1 hc0 (by rw [r2]; exact hc1) (r3 c hc0 hc1) (fun r1237 => ?_)
  refine e_callS (As := [zR _, zI _, zI _]) dL_law_1238 moL_told msL_told mlL_201 rfl (Nat.le_of_ble_eq_true rfl) ⟨Nat.le_of_ble_eq_true rfl, Nat.le_of_ble_eq_true rfl, by show k + 779 ≤ 600192; omega, by show n + 5826 ≤ 7295879; omega⟩ (c_L_told hl hR hI c (S 35 c) hcC rfl hcol) (fun E h9 q => by cases q.1) (fun v9 h9 q => ?_)
  obtain ⟨e1, hR2, qf⟩ := q
  cases e1
  refine e_if_ne (tgt := 1246) dL_law_1241 (by decide) (by decide) (fun c1241 => ?_) (fun c1241 => by exfalso; exact absurd c1241 (by decide))
  refine e_aloadY dL_law_1246 rfl rfl ?_
  refine e_iload dL_law_1247 rfl ?_
  refine e_iconst dL_law_1249 ?_
  refine e_iadd dL_law_1250 ?_
  refine e_bipush dL_law_1251 (by decide) ?_
  refine e_callSY (Yc := MLsome L f) (As := [zY, zI _, zI _]) dL_law_1253 moL_some msL_some mlL_146 rfl rfl rfl (Nat.le_of_ble_eq_true rfl) ⟨Nat.le_of_ble_eq_true rfl, Nat.le_of_ble_eq_true rfl, by show k + 779 ≤ 600192; omega, by show n + 5826 ≤ 7295879; omega⟩ (c_L_some hl hL _ _ (by omega) (by omega) (by omega) (by omega)) (fun E h9 q => by cases q.1) (fun v9 h9 q => ?_)
  obtain ⟨e1, e2⟩ := q
  cases e1
  rw [e2]
  clear e2 h9
  rw [← hx9]
  refine e_istore dL_law_1256 (Nat.le_of_ble_eq_true rfl) rfl rfl ?_
  refine e_aloadY dL_law_1258 rfl rfl ?_
  refine e_iload dL_law_1259 rfl ?_
  refine e_iconst dL_law_1261 ?_
  refine e_iadd dL_law_1262 ?_
  refine e_bipush dL_law_1263 (by decide) ?_
  refine e_callSY (Yc := MLsome L f) (As := [zY, zI _, zI _]) dL_law_1265 moL_some msL_some mlL_146 rfl rfl rfl (Nat.le_of_ble_eq_true rfl) ⟨Nat.le_of_ble_eq_true rfl, Nat.le_of_ble_eq_true rfl, by show k + 779 ≤ 600192; omega, by show n + 5826 ≤ 7295879; omega⟩ (c_L_some hl hL _ _ (by omega) (by omega) (by omega) (by omega)) (fun E h9 q => by cases q.1) (fun v9 h9 q => ?_)
  obtain ⟨e1, e2⟩ := q
  cases e1
  rw [e2]
  clear e2 h9
  rw [← hu9]
  refine e_istore dL_law_1268 (Nat.le_of_ble_eq_true rfl) rfl rfl ?_
  refine e_aload dL_law_1270 rfl ?_
  refine e_aload_n dL_law_1272 rfl rfl ?_
  refine e_iload dL_law_1273 rfl ?_
  refine e_iload dL_law_1275 rfl ?_
  refine e_iload dL_law_1277 rfl ?_
  refine e_callH (As := [zR _, zI _, zI _, zI _]) dL_law_1279 hoL_picture mlL_136 rfl (Nat.le_of_ble_eq_true rfl) ⟨Nat.le_of_ble_eq_true rfl, Nat.le_of_ble_eq_true rfl, by show k + 781 ≤ 600192; omega, by show n + 5838 ≤ 7295879; omega⟩ (c_L_picture hl hR2 hI c hcz x9 hxz u9 huz 0 (Eq.symm (if_neg (nn ⟨hcC, hXY⟩)))) (fun E h9 q => (QI_inl q).elim) (fun v9 h9 q => ?_)
  obtain ⟨e1, qf2, hR3⟩ := QI_all q
  clear q
  cases e1
  rw [lw1_0]
  have q12 := FQ_tr qf qf2
  refine e_zald dL_law_1282 ((q12 99 (by decide)).1.trans d1) hp1.1.1 (by rw [(q12 99 (by decide)).2.1, d2]; exact hp1.1.2) (((q12 99 (by decide)).2.2.2.1 _).trans hp1.2) (fun r1282 => ?_)
  refine e_if_eq (tgt := 1322) dL_law_1283 (by decide) (by decide) (fun c1283 => by exfalso; omega) (fun c1283 => ?_)
  refine e_aload dL_law_1286 rfl ?_
  refine e_aload_n dL_law_1288 rfl rfl ?_
  refine e_iload dL_law_1289 rfl ?_
  refine e_iload dL_law_1291 rfl ?_
  refine e_iload dL_law_1293 rfl ?_
  refine e_callH (As := [zR _, zI _, zI _, zI _]) dL_law_1295 hoL_seen mlL_205 rfl (Nat.le_of_ble_eq_true rfl) ⟨Nat.le_of_ble_eq_true rfl, Nat.le_of_ble_eq_true rfl, by show k + 783 ≤ 600192; omega, by show n + 5850 ≤ 7295879; omega⟩ (c_L_seen hl hR3 hI c hcz x9 hxz u9 huz 0 (Eq.symm (if_neg (nn ⟨hcC, hXY⟩)))) (fun E h9 q => (QI_inl q).elim) (fun v9 h9 q => ?_)
  obtain ⟨e1, qf3, hR4⟩ := QI_all q
  clear q
  cases e1
  rw [lw1_0]
  have q13 := FQ_tr q12 qf3
  refine e_zald dL_law_1298 ((q13 99 (by decide)).1.trans d1) hp2.1.1 (by rw [(q13 99 (by decide)).2.1, d2]; exact hp2.1.2) (((q13 99 (by decide)).2.2.2.1 _).trans hp2.2) (fun r1298 => ?_)
  refine e_if_eq (tgt := 1322) dL_law_1299 (by decide) (by decide) (fun c1299 => by exfalso; omega) (fun c1299 => ?_)
  refine e_aload_n dL_law_1302 rfl rfl ?_
  refine e_iload dL_law_1303 rfl ?_
  refine e_aloadY dL_law_1305 rfl rfl ?_
  refine e_iload dL_law_1306 rfl ?_
  refine e_bipush dL_law_1308 (by decide) ?_
  refine e_iadd dL_law_1310 ?_
  refine e_bipush dL_law_1311 (by decide) ?_
  refine e_callSY (Yc := MLsome L f) (As := [zY, zI _, zI _]) dL_law_1313 moL_some msL_some mlL_146 rfl rfl rfl (Nat.le_of_ble_eq_true rfl) ⟨Nat.le_of_ble_eq_true rfl, Nat.le_of_ble_eq_true rfl, by show k + 783 ≤ 600192; omega, by show n + 5850 ≤ 7295879; omega⟩ (c_L_some hl hL _ _ (by omega) (by omega) (by omega) (by omega)) (fun E h9 q => by cases q.1) (fun v9 h9 q => ?_)
  obtain ⟨e1, e2⟩ := q
  cases e1
  rw [e2]
  clear e2 h9
  rw [← hb9]
  refine e_callH (As := [zR _, zI _, zI _]) dL_law_1316 hoL_bid mlL_207 rfl (Nat.le_of_ble_eq_true rfl) ⟨Nat.le_of_ble_eq_true rfl, Nat.le_of_ble_eq_true rfl, by show k + 785 ≤ 600192; omega, by show n + 5862 ≤ 7295879; omega⟩ (c_L_bid hl hR4 hI c hcz b9 hbz 0 (Eq.symm (Eq.trans (if_neg (nn hcC)) (if_neg (nn hbr))))) (fun E h9 q => (QI_inl q).elim) (fun v9 h9 q => ?_)
  obtain ⟨e1, qf4, q3⟩ := q
  cases e1
  rw [lw2_0]
  have hR5 := (q3.resolve_right (fun z => by omega)).2
  refine e_if_ge (tgt := 1324) dL_law_1319 (by decide) (by omega) (fun c1319 => ?_) (fun c1319 => by exfalso; omega)
  refine e_iinc dL_law_1324 (Nat.le_of_ble_eq_true rfl) rfl rfl rfl rfl ?_
  refine e_goto (tgt := 137) dL_law_1327 (by decide) ?_
  refine e_mask [true, true, true, true, true, true, true, true, true, true, false, false, false, false, false, false, false, false, false, false] ?_
  refine e_wid (k + 900) (n + 7000) (by show k + 785 ≤ _; omega) (by show n + 5862 ≤ _; omega) ?_
  have hJ2 : LJ (up S 36 c b9) B ns nc _ := LJ_st hJ (FQ_tr q13 qf4) hR5 (I4_bid hI4 hcC hbr) (IBt_no (by unfold bF; omega) hbt) (by omega) (fun f9 hf j => up_f (by omega)) (HD_ag (fun f9 hf j => up_f (by omega)) hd)
  have z9 := K _ _ hJ2
  rw [up_f (by decide)] at z9
  exact z9
set_option maxHeartbeats 4000000 in
set_option maxRecDepth 100000 in
/-- a turn -/
theorem law_turn {l : Launch} (hl : l.stackTraces = false) (hG : GMore l) {L : Nat} {f : Nat → Int32} (hL : L ≤ 260) {ns nc : Int} (hns : 1 ≤ ns ∧ ns ≤ 4) (hnc : 1 ≤ nc ∧ nc ≤ 6) {S : S9} {h : zH} {B turn : Int} {k n : Nat} (hk : k + 1000 ≤ 600192) (hn : n + 20000 ≤ 7295879) (hB9 : B ≤ 1000000) (ht : 0 ≤ turn ∧ turn < 45) (hJ : LJ S B ns nc h) (K : ∀ S' h', LJ S' (B + 20000) ns nc h' → AW l (MLW L f) QW (k + 1000) (n + 20000) 137 [zY, zR (some 2), zI ns, zI nc, zR (some 6), zR (some 7), zR (some 99), zL (S' 3 0), zX, zI (turn + 1), zX, zX, zX, zX, zX, zX, zX, zX, zX, zX] [] h') : AW l (MLW L f) QW k n 137 [zY, zR (some 2), zI ns, zI nc, zR (some 6), zR (some 7), zR (some 99), zL (S 3 0), zX, zI (turn), zX, zX, zX, zX, zX, zX, zX, zX, zX, zX] [] h := by
  obtain ⟨hR, hI4, hbt, hB0, ⟨⟨hb1, hb2⟩, ⟨r1, r2, r3⟩, ⟨w1, w2, w3⟩, d1, d2⟩, hd⟩ := id hJ
  obtain ⟨n1, n2, n3, n4, n5⟩ := id hI4.1.1
  refine e_iload dL_law_137 rfl ?_
  refine e_bipush dL_law_139 (by decide) ?_
  refine e_icmp_ge (tgt := 1330) dL_law_141 (by decide) (by omega) (by omega) (fun c141 => by exfalso; omega) (fun c141 => ?_)
  refine e_bipush dL_law_144 (by decide) ?_
  refine e_bipush dL_law_146 (by decide) ?_
  refine e_iload dL_law_148 rfl ?_
  refine e_imul dL_law_150 ?_
  refine e_iadd dL_law_151 ?_
  obtain ⟨at9, hat⟩ : ∃ at9 : Int, at9 = 14 + 7 * turn := ⟨_, rfl⟩
  rw [← hat]
  have har : 0 ≤ at9 ∧ at9 ≤ 330 := by omega
  clear hat
  refine e_istore dL_law_152 (Nat.le_of_ble_eq_true rfl) rfl rfl ?_
  refine e_aloadY dL_law_154 rfl rfl ?_
  refine e_iload dL_law_155 rfl ?_
  refine e_bipush dL_law_157 (by decide) ?_
  refine e_callSY (Yc := MLsome L f) (As := [zY, zI _, zI _]) dL_law_159 moL_some msL_some mlL_146 rfl rfl rfl (Nat.le_of_ble_eq_true rfl) ⟨Nat.le_of_ble_eq_true rfl, Nat.le_of_ble_eq_true rfl, by show k + 0 ≤ 600192; omega, by show n + 0 ≤ 7295879; omega⟩ (c_L_some hl hL _ _ (by omega) (by omega) (by omega) (by omega)) (fun E h9 q => by cases q.1) (fun v9 h9 q => ?_)
  obtain ⟨e1, e2⟩ := q
  cases e1
  rw [e2]
  clear e2 h9
  obtain ⟨what, hwhat9⟩ : ∃ what : Int, what = smv L f at9 13 := ⟨_, rfl⟩
  rw [← hwhat9]
  have hwhatr : 0 ≤ what ∧ what < 13 := by rw [hwhat9]; exact smv_in (by omega)
  clear hwhat9
  refine e_istore dL_law_162 (Nat.le_of_ble_eq_true rfl) rfl rfl ?_
  refine e_aloadY dL_law_164 rfl rfl ?_
  refine e_iload dL_law_165 rfl ?_
  refine e_iconst dL_law_167 ?_
  refine e_iadd dL_law_168 ?_
  refine e_iload_n dL_law_169 rfl rfl ?_
  refine e_callSY (Yc := MLsome L f) (As := [zY, zI _, zI _]) dL_law_170 moL_some msL_some mlL_146 rfl rfl rfl (Nat.le_of_ble_eq_true rfl) ⟨Nat.le_of_ble_eq_true rfl, Nat.le_of_ble_eq_true rfl, by show k + 0 ≤ 600192; omega, by show n + 0 ≤ 7295879; omega⟩ (c_L_some hl hL _ _ (by omega) (by omega) (by omega) (by omega)) (fun E h9 q => by cases q.1) (fun v9 h9 q => ?_)
  obtain ⟨e1, e2⟩ := q
  cases e1
  rw [e2]
  clear e2 h9
  obtain ⟨q, hq9⟩ : ∃ q : Int, q = smv L f (at9 + 1) ns := ⟨_, rfl⟩
  rw [← hq9]
  have hqr : 0 ≤ q ∧ q < ns := by rw [hq9]; exact smv_in (by omega)
  clear hq9
  refine e_istore dL_law_173 (Nat.le_of_ble_eq_true rfl) rfl rfl ?_
  refine e_aloadY dL_law_175 rfl rfl ?_
  refine e_iload dL_law_176 rfl ?_
  refine e_iconst dL_law_178 ?_
  refine e_iadd dL_law_179 ?_
  refine e_iload_n dL_law_180 rfl rfl ?_
  refine e_callSY (Yc := MLsome L f) (As := [zY, zI _, zI _]) dL_law_181 moL_some msL_some mlL_146 rfl rfl rfl (Nat.le_of_ble_eq_true rfl) ⟨Nat.le_of_ble_eq_true rfl, Nat.le_of_ble_eq_true rfl, by show k + 0 ≤ 600192; omega, by show n + 0 ≤ 7295879; omega⟩ (c_L_some hl hL _ _ (by omega) (by omega) (by omega) (by omega)) (fun E h9 q => by cases q.1) (fun v9 h9 q => ?_)
  obtain ⟨e1, e2⟩ := q
  cases e1
  rw [e2]
  clear e2 h9
  obtain ⟨c, hc9⟩ : ∃ c : Int, c = smv L f (at9 + 2) nc := ⟨_, rfl⟩
  rw [← hc9]
  have hcr : 0 ≤ c ∧ c < nc := by rw [hc9]; exact smv_in (by omega)
  clear hc9
  refine e_istore dL_law_184 (Nat.le_of_ble_eq_true rfl) rfl rfl ?_
  refine e_aload dL_law_186 rfl ?_
  refine e_iload dL_law_188 rfl ?_
  refine e_iald dL_law_190 w1 hqr.1 (by rw [w2]; exact hqr.2) (w3 q hqr.1 hqr.2) (fun r190 => ?_)
  have n5q := n5 q hqr.1 (by omega)
  have K2 : ∀ S' h', LJ S' (B + 20000) ns nc h' → AW l (MLW L f) QW (k + 100) (n + 13000) 1230 [zY, zR (some 2), zI ns, zI nc, zR (some 6), zR (some 7), zR (some 99), zL (S' 3 0), zX, zI turn, zI at9, zX, zX, zI c, zX, zX, zX, zX, zX, zX] [] h' := fun S' h' hJ' => turn_end hl hG hL hns hnc (by omega) (by omega) hJ' hcr har (fun S2 h2 hJ2 => e_wid (k + 1000) (n + 20000) (by omega) (by omega) (K S2 h2 hJ2))
  have J211 : ∀ w : Int, (0 ≤ w ∧ w < 6 ∧ (S 4 q ≠ 0 → w < S 4 q)) → AW l (MLW L f) QW k n 211 [zY, zR (some 2), zI ns, zI nc, zR (some 6), zR (some 7), zR (some 99), zL (S 3 0), zX, zI turn, zI at9, zI what, zI q, zI c, zX, zX, zX, zX, zX, zX] [zI w] h := by
    intro w hw
    refine e_istore dL_law_211 (Nat.le_of_ble_eq_true rfl) rfl rfl ?_
    refine e_iload dL_law_213 rfl ?_
    refine e_iconst dL_law_215 ?_
    refine e_icmp_ge (tgt := 324) dL_law_216 (by decide) (by omega) (by omega) (fun c216 => ?_) (fun c216 => ?_)
    rotate_left
    · skip
      exact br_open hl hG hL (by omega) (by omega) hB9 hJ hqr hcr hw har K2
    refine e_iload dL_law_324 rfl ?_
    refine e_iconst dL_law_326 ?_
    refine e_icmp_ge (tgt := 451) dL_law_327 (by decide) (by omega) (by omega) (fun c327 => ?_) (fun c327 => ?_)
    rotate_left
    · skip
      exact br_draw hl hG hL (by omega) (by omega) hB9 hJ hqr hcr hw har K2
    refine e_iload dL_law_451 rfl ?_
    refine e_iconst dL_law_453 ?_
    refine e_icmp_ne (tgt := 543) dL_law_454 (by decide) (by omega) (by omega) (fun c454 => ?_) (fun c454 => ?_)
    rotate_left
    · skip
      exact br_move hl hG hL (by omega) (by omega) hB9 hJ hqr hcr hw har K2
    refine e_iload dL_law_543 rfl ?_
    refine e_bipush dL_law_545 (by decide) ?_
    refine e_icmp_ne (tgt := 666) dL_law_547 (by decide) (by omega) (by omega) (fun c547 => ?_) (fun c547 => ?_)
    rotate_left
    · skip
      exact br_is hl hG hL (by omega) (by omega) hB9 hJ hqr hcr hw har K2
    refine e_iload dL_law_666 rfl ?_
    refine e_bipush dL_law_668 (by decide) ?_
    refine e_icmp_ne (tgt := 757) dL_law_670 (by decide) (by omega) (by omega) (fun c670 => ?_) (fun c670 => ?_)
    rotate_left
    · skip
      exact br_type hl hG hL (by omega) (by omega) hB9 hJ hqr hcr hw har K2
    refine e_iload dL_law_757 rfl ?_
    refine e_bipush dL_law_759 (by decide) ?_
    refine e_icmp_ne (tgt := 851) dL_law_761 (by decide) (by omega) (by omega) (fun c761 => ?_) (fun c761 => ?_)
    rotate_left
    · skip
      exact br_mv hl hG hL (by omega) (by omega) hB9 hJ hqr hcr hw har K2
    refine e_iload dL_law_851 rfl ?_
    refine e_bipush dL_law_853 (by decide) ?_
    refine e_icmp_ne (tgt := 892) dL_law_855 (by decide) (by omega) (by omega) (fun c855 => ?_) (fun c855 => ?_)
    rotate_left
    · skip
      exact br_rec hl hG hL (by omega) (by omega) hB9 hJ hqr hcr hw har K2
    refine e_iload dL_law_892 rfl ?_
    refine e_bipush dL_law_894 (by decide) ?_
    refine e_icmp_ne (tgt := 1056) dL_law_896 (by decide) (by omega) (by omega) (fun c896 => ?_) (fun c896 => ?_)
    rotate_left
    · skip
      exact br_clip hl hG hL (by omega) (by omega) hB9 hJ hqr hcr hw har K2
    exact br_tick hl hG hL (by omega) (by omega) hB9 hJ hqr hcr hw har K2
  refine e_if_ne (tgt := 198) dL_law_191 (by decide) (by omega) (fun c191 => ?_) (fun c191 => ?_)
  · skip
    refine e_aloadY dL_law_198 rfl rfl ?_
    refine e_iload dL_law_199 rfl ?_
    refine e_iconst dL_law_201 ?_
    refine e_iadd dL_law_202 ?_
    refine e_aload dL_law_203 rfl ?_
    refine e_iload dL_law_205 rfl ?_
    refine e_iald dL_law_207 w1 hqr.1 (by rw [w2]; exact hqr.2) (w3 q hqr.1 hqr.2) (fun r207 => ?_)
    refine e_callSY (Yc := MLsome L f) (As := [zY, zI _, zI _]) dL_law_208 moL_some msL_some mlL_146 rfl rfl rfl (Nat.le_of_ble_eq_true rfl) ⟨Nat.le_of_ble_eq_true rfl, Nat.le_of_ble_eq_true rfl, by show k + 0 ≤ 600192; omega, by show n + 0 ≤ 7295879; omega⟩ (c_L_some hl hL _ _ (by omega) (by omega) (by omega) (by omega)) (fun E h9 q => by cases q.1) (fun v9 h9 q => ?_)
    obtain ⟨e1, e2⟩ := q
    cases e1
    rw [e2]
    clear e2 h9
    have y9 := smv_in (L := L) (f := f) (k := at9 + 3) (n := S 4 q) (by omega)
    exact J211 _ ⟨y9.1, by omega, fun _ => y9.2⟩
  · skip
    refine e_iconst dL_law_194 ?_
    refine e_goto (tgt := 211) dL_law_195 (by decide) ?_
    exact J211 0 ⟨by decide, by decide, fun z => by omega⟩
set_option maxHeartbeats 4000000 in
set_option maxRecDepth 100000 in
/-- the turns -/
theorem law_loop {l : Launch} (hl : l.stackTraces = false) (hG : GMore l) {L : Nat} {f : Nat → Int32} (hL : L ≤ 260) {ns nc : Int} (hns : 1 ≤ ns ∧ ns ≤ 4) (hnc : 1 ≤ nc ∧ nc ≤ 6) : ∀ (d : Nat) {S : S9} {h : zH} {B turn : Int} {k n : Nat}, turn + d = 45 → 0 ≤ turn → k + 1000 * d + 400 ≤ 600192 → n + 20000 * d + 4000 ≤ 7295879 → B ≤ 20000 * turn → LJ S B ns nc h → AW l (MLW L f) QW k n 137 [zY, zR (some 2), zI ns, zI nc, zR (some 6), zR (some 7), zR (some 99), zL (S 3 0), zX, zI (turn), zX, zX, zX, zX, zX, zX, zX, zX, zX, zX] [] h
  | 0, S, h, B, turn, k, n, hd, ht, hk, hn, hB, hJ => by
    refine e_iload dL_law_137 rfl ?_
    refine e_bipush dL_law_139 (by decide) ?_
    refine e_icmp_ge (tgt := 1330) dL_law_141 (by decide) (by omega) (by omega) (fun c141 => ?_) (fun c141 => by exfalso; omega)
    refine e_iconst dL_law_1330 ?_
    refine e_istore dL_law_1331 (Nat.le_of_ble_eq_true rfl) rfl rfl ?_
    refine e_mask [true, true, true, true, true, true, true, false, false, true, false, false, false, false, false, false, false, false, false, false] ?_
    obtain ⟨hR, hI4, hbt, hB0, ⟨⟨hb1, hb2⟩, -⟩, -⟩ := hJ
    exact law_tks hl hG hL hns hnc hB0 (by omega) 6 (by omega) (by omega) (by omega) (by omega) hR (I4_le (by omega) hI4) hbt (show ES (20 * 0) S from Or.inl rfl) hb1 hb2
  | d + 1, S, h, B, turn, k, n, hd, ht, hk, hn, hB, hJ => law_turn hl hG hL hns hnc (by omega) (by omega) (by omega) (by omega) hJ (fun S' h' hJ' => law_loop hl hG hL hns hnc d (by omega) (by omega) (by omega) (by omega) (by omega) hJ')
/-- the law's rows while clients join -/
def BJ (S : S9) (ns nc i : Int) (h : zH) : Prop := RC S h ∧ I4 S 0 ∧ IBt S ∧ (S 1 0 = ns ∧ S 2 0 = i) ∧ (∀ f j, f ≠ 1 → f ≠ 2 → f ≠ 35 → f ≠ 36 → S f j = 0) ∧ (zK h 6 = 100 ∧ zN h 6 = nc ∧ ∀ c, 0 ≤ c → c < i → za h 6 c = S 35 c) ∧ (zK h 7 = 100 ∧ zN h 7 = ns ∧ ∀ q, za h 7 q = 0) ∧ zK h 99 = 101 ∧ zN h 99 = 256 ∧ za h 99 0 = 1
theorem BJ_LJ {S : S9} {ns nc : Int} {h : zH} (a : BJ S ns nc nc h) : LJ S 0 ns nc h := by
  obtain ⟨hR, hI4, hbt, hb, hz, r6, ⟨k7, n7, z7⟩, k9, n9, z9⟩ := a
  have h0 : hadP h 0 := ⟨⟨by decide, by decide⟩, z9⟩
  refine ⟨hR, hI4, hbt, by decide, ⟨hb, r6, ⟨k7, n7, fun q _ _ => (z7 q).trans (hz 4 q (by decide) (by decide) (by decide) (by decide)).symm⟩, k9, n9⟩, h0, fun j _ _ => ?_, fun j _ _ => ?_, fun s k _ _ k0 k1 => ?_⟩
  · rw [hz 14 j (by decide) (by decide) (by decide) (by decide)]
    exact h0
  · rw [hz 40 j (by decide) (by decide) (by decide) (by decide)]
    exact h0
  · rw [hz 17 s (by decide) (by decide) (by decide) (by decide)] at k1
    omega
theorem BJ_join {S : S9} {ns nc i s b : Int} {h h2 : zH} (a : BJ S ns nc i h) (i0 : 0 ≤ i) (i6 : i < 6) (hs : isS S s) (hb : 0 ≤ b ∧ b ≤ 9) (hR2 : RC (joinS S s b) h2) (qf : FQ (sa h 6 i s) h2) : BJ (joinS S s b) ns nc (i + 1) h2 := by
  obtain ⟨hR, hI4, hbt, ⟨hb1, hb2⟩, hz, ⟨k6, n6, r6⟩, ⟨k7, n7, z7⟩, k9, n9, z9⟩ := a
  obtain ⟨a1, a2, -, a4, -⟩ := qf 6 (by decide)
  obtain ⟨b1, b2, -, b4, -⟩ := qf 7 (by decide)
  obtain ⟨c1, c2, -, c4, -⟩ := qf 99 (by decide)
  refine ⟨hR2, I4_join hI4 hs (by omega) hb, IBt_join hbt, ⟨(joinS_f (by decide)).trans hb1, ?_⟩, fun f j h1 h2 h35 h36 => (joinS_f ⟨h2, h35, h36⟩).trans (hz f j h1 h2 h35 h36), ⟨a1.trans k6, a2.trans n6, fun c c0 c1 => ?_⟩, ⟨b1.trans k7, b2.trans n7, fun q => (b4 q).trans ((za_nn (by decide)).trans (z7 q))⟩, c1.trans k9, c2.trans n9, (c4 0).trans ((za_nn (by decide)).trans z9)⟩
  · have e : joinS S s b 2 0 = S 2 0 + 1 := up_eq
    omega
  · have e : joinS S s b 35 c = if c = S 2 0 then s else S 35 c := (up_f (by decide)).trans ((up_f (by decide)).trans up_at)
    rw [a4 c, e, hb2]
    show z3 (za h) 6 i s 6 c = _
    unfold z3
    by_cases y : c = i
    · rw [if_pos ⟨rfl, y⟩, if_pos y]
    · rw [if_neg (fun z => y z.2), if_neg y]
      exact r6 c c0 (by omega)
set_option maxHeartbeats 4000000 in
set_option maxRecDepth 100000 in
/-- clients join -/
theorem law_join {l : Launch} (hl : l.stackTraces = false) (hG : GMore l) {L : Nat} {f : Nat → Int32} (hL : L ≤ 260) {ns nc : Int} (hns : 1 ≤ ns ∧ ns ≤ 4) (hnc : 1 ≤ nc ∧ nc ≤ 6) : ∀ (d : Nat) {S : S9} {h : zH} {i : Int} {k n : Nat}, i + d = nc → 0 ≤ i → k + 20 * d + 45400 ≤ 600192 → n + 400 * d + 904000 ≤ 7295879 → BJ S ns nc i h → AW l (MLW L f) QW k n 81 [zY, zR (some 2), zI ns, zI nc, zR (some 6), zR (some 7), zR (some 99), zL (0), zX, zI (i), zX, zX, zX, zX, zX, zX, zX, zX, zX, zX] [] h
  | 0, S, h, i, k, n, hd, hi, hk, hn, hJ => by
    have e : i = nc := by omega
    subst e
    refine e_iload dL_law_81 rfl ?_
    refine e_iload_n dL_law_83 rfl rfl ?_
    refine e_icmp_ge (tgt := 134) dL_law_84 (by decide) (by omega) (by omega) (fun c84 => ?_) (fun c84 => by exfalso; omega)
    refine e_iconst dL_law_134 ?_
    refine e_istore dL_law_135 (Nat.le_of_ble_eq_true rfl) rfl rfl ?_
    have z9 := law_loop hl hG hL hns hnc 45 (f := f) (turn := 0) (k := k) (n := n) (by omega) (by omega) (by omega) (by omega) (by omega) (BJ_LJ hJ)
    rw [hJ.2.2.2.2.1 3 0 (by decide) (by decide) (by decide) (by decide)] at z9
    exact z9
  | d + 1, S, h, i, k, n, hd, hi, hk, hn, hJ => by
    obtain ⟨hR, hI4, hbt, ⟨hb1, hb2⟩, hz, ⟨k6, n6, r6⟩, -⟩ := id hJ
    have hI := II_mk hI4 hbt
    have ys := smv_in (L := L) (f := f) (k := 2 + i) (n := ns) (by omega)
    have yb := smv_in (L := L) (f := f) (k := 8 + i) (n := 10) (by omega)
    obtain ⟨s9, hs9⟩ : ∃ s9 : Int, s9 = smv L f (2 + i) ns := ⟨_, rfl⟩
    obtain ⟨b9, hb9⟩ : ∃ b9 : Int, b9 = smv L f (8 + i) 10 := ⟨_, rfl⟩
    rw [← hs9] at ys
    rw [← hb9] at yb
    have hsS : isS S s9 := ⟨by omega, by omega⟩
    have hsz : zin s9 := ⟨by omega, by omega⟩
    have hbz : zin b9 := ⟨by omega, by omega⟩
    have hbr : 0 ≤ b9 ∧ b9 ≤ 9 := by omega
    refine e_iload dL_law_81 rfl ?_
    refine e_iload_n dL_law_83 rfl rfl ?_
    refine e_icmp_ge (tgt := 134) dL_law_84 (by decide) (by omega) (by omega) (fun c84 => by exfalso; omega) (fun c84 => ?_)
    refine e_aload dL_law_87 rfl ?_
    refine e_iload dL_law_89 rfl ?_
    refine e_aloadY dL_law_91 rfl rfl ?_
    refine e_iconst dL_law_92 ?_
    refine e_iload dL_law_93 rfl ?_
    refine e_iadd dL_law_95 ?_
    refine e_iload_n dL_law_96 rfl rfl ?_
    refine e_callSY (Yc := MLsome L f) (As := [zY, zI _, zI _]) dL_law_97 moL_some msL_some mlL_146 rfl rfl rfl (Nat.le_of_ble_eq_true rfl) ⟨Nat.le_of_ble_eq_true rfl, Nat.le_of_ble_eq_true rfl, by show k + 0 ≤ 600192; omega, by show n + 0 ≤ 7295879; omega⟩ (c_L_some hl hL _ _ (by omega) (by omega) (by omega) (by omega)) (fun E h9 q => by cases q.1) (fun v9 h9 q => ?_)
    obtain ⟨e1, e2⟩ := q
    cases e1
    rw [e2]
    clear e2 h9
    rw [← hs9]
    refine e_iast dL_law_100 k6 (by omega) (by rw [n6]; omega) (by omega) ?_
    have hR1 : RC S (sa h 6 i s9) := RC_row9 (Or.inl rfl) hI4.1.1 hR
    refine e_aload_n dL_law_101 rfl rfl ?_
    refine e_aload dL_law_102 rfl ?_
    refine e_iload dL_law_104 rfl ?_
    refine e_iald dL_law_106 k6 (by omega) (by show _ < zN h 6; rw [n6]; omega) (show za (sa h 6 i s9) 6 i = s9 from z3_eq) (fun r106 => ?_)
    refine e_aloadY dL_law_107 rfl rfl ?_
    refine e_bipush dL_law_108 (by decide) ?_
    refine e_iload dL_law_110 rfl ?_
    refine e_iadd dL_law_112 ?_
    refine e_bipush dL_law_113 (by decide) ?_
    refine e_callSY (Yc := MLsome L f) (As := [zY, zI _, zI _]) dL_law_115 moL_some msL_some mlL_146 rfl rfl rfl (Nat.le_of_ble_eq_true rfl) ⟨Nat.le_of_ble_eq_true rfl, Nat.le_of_ble_eq_true rfl, by show k + 0 ≤ 600192; omega, by show n + 0 ≤ 7295879; omega⟩ (c_L_some hl hL _ _ (by omega) (by omega) (by omega) (by omega)) (fun E h9 q => by cases q.1) (fun v9 h9 q => ?_)
    obtain ⟨e1, e2⟩ := q
    cases e1
    rw [e2]
    clear e2 h9
    rw [← hb9]
    refine e_callH (As := [zR _, zI _, zI _]) dL_law_118 hoL_join mlL_153 rfl (Nat.le_of_ble_eq_true rfl) ⟨Nat.le_of_ble_eq_true rfl, Nat.le_of_ble_eq_true rfl, by show k + 8 ≤ 600192; omega, by show n + 237 ≤ 7295879; omega⟩ (c_L_join hl hR1 hI s9 hsz b9 hbz 0 (Eq.symm (Eq.trans (if_neg (nn hsS)) (Eq.trans (if_neg (nn hbr)) (if_neg (by omega)))))) (fun E h9 q => (QI_inl q).elim) (fun v9 h9 q => ?_)
    obtain ⟨e1, qf, q3⟩ := q
    cases e1
    rw [lw3_0, hb2]
    have hR2 := (q3.resolve_right (fun z => by omega)).2
    refine e_iload dL_law_121 rfl ?_
    refine e_icmp_eq (tgt := 128) dL_law_123 (by decide) (by omega) (by omega) (fun c123 => ?_) (fun c123 => by exfalso; exact c123 rfl)
    refine e_iinc dL_law_128 (Nat.le_of_ble_eq_true rfl) rfl rfl rfl rfl ?_
    refine e_goto (tgt := 81) dL_law_131 (by decide) ?_
    refine e_wid (k + 20) (n + 400) (by show k + 8 ≤ _; omega) (by show n + 237 ≤ _; omega) ?_
    exact law_join hl hG hL hns hnc d (by omega) (by omega) (by omega) (by omega) (BJ_join hJ hi (by omega) hsS hbr hR2 qf)
/-- the law's rows while sessions open -/
def BO (S : S9) (ns nc i : Int) (h : zH) : Prop := RC S h ∧ I4 S 0 ∧ IBt S ∧ S 1 0 = i ∧ (∀ f j, f ≠ 1 → S f j = 0) ∧ (zK h 6 = 100 ∧ zN h 6 = nc) ∧ (zK h 7 = 100 ∧ zN h 7 = ns ∧ ∀ q, za h 7 q = 0) ∧ zK h 99 = 101 ∧ zN h 99 = 256 ∧ za h 99 0 = 1
theorem BO_BJ {S : S9} {ns nc : Int} {h : zH} (a : BO S ns nc ns h) : BJ S ns nc 0 h := by
  obtain ⟨hR, hI4, hbt, hb1, hz, ⟨k6, n6⟩, r7⟩ := a
  exact ⟨hR, hI4, hbt, ⟨hb1, hz 2 0 (by decide)⟩, fun f j h1 _ _ _ => hz f j h1, ⟨k6, n6, fun c c0 c1 => by omega⟩, r7⟩
theorem BO_open {S : S9} {ns nc i : Int} {h h2 : zH} (a : BO S ns nc i h) (i4 : i < 4) (hR2 : RC (up S 1 0 (S 1 0 + 1)) h2) (qf : FQ h h2) : BO (up S 1 0 (S 1 0 + 1)) ns nc (i + 1) h2 := by
  obtain ⟨hR, hI4, hbt, hb1, hz, ⟨k6, n6⟩, ⟨k7, n7, z7⟩, k9, n9, z9⟩ := a
  obtain ⟨a1, a2, -, a4, -⟩ := qf 6 (by decide)
  obtain ⟨b1, b2, -, b4, -⟩ := qf 7 (by decide)
  obtain ⟨c1, c2, -, c4, -⟩ := qf 99 (by decide)
  exact ⟨hR2, I4_openSession hI4 (by omega), IBt_no (by unfold bF; omega) hbt, by rw [up_eq, hb1], fun f j h1 => (up_f h1).trans (hz f j h1), ⟨a1.trans k6, a2.trans n6⟩, ⟨b1.trans k7, b2.trans n7, fun q => (b4 q).trans (z7 q)⟩, c1.trans k9, c2.trans n9, (c4 0).trans z9⟩
set_option maxHeartbeats 4000000 in
set_option maxRecDepth 100000 in
/-- sessions open -/
theorem law_opn {l : Launch} (hl : l.stackTraces = false) (hG : GMore l) {L : Nat} {f : Nat → Int32} (hL : L ≤ 260) {ns nc : Int} (hns : 1 ≤ ns ∧ ns ≤ 4) (hnc : 1 ≤ nc ∧ nc ≤ 6) : ∀ (d : Nat) {S : S9} {h : zH} {i : Int} {k n : Nat}, i + d = ns → 0 ≤ i → k + 20 * d + 45600 ≤ 600192 → n + 400 * d + 907000 ≤ 7295879 → BO S ns nc i h → AW l (MLW L f) QW k n 55 [zY, zR (some 2), zI ns, zI nc, zR (some 6), zR (some 7), zR (some 99), zL (0), zX, zI (i), zX, zX, zX, zX, zX, zX, zX, zX, zX, zX] [] h
  | 0, S, h, i, k, n, hd, hi, hk, hn, hJ => by
    have e : i = ns := by omega
    subst e
    refine e_iload dL_law_55 rfl ?_
    refine e_iload_n dL_law_57 rfl rfl ?_
    refine e_icmp_ge (tgt := 78) dL_law_58 (by decide) (by omega) (by omega) (fun c58 => ?_) (fun c58 => by exfalso; omega)
    refine e_iconst dL_law_78 ?_
    refine e_istore dL_law_79 (Nat.le_of_ble_eq_true rfl) rfl rfl ?_
    exact law_join hl hG hL hns hnc nc.toNat (by omega) (by omega) (by omega) (by omega) (BO_BJ hJ)
  | d + 1, S, h, i, k, n, hd, hi, hk, hn, hJ => by
    obtain ⟨hR, hI4, hbt, hb1, hz, -⟩ := id hJ
    have hI := II_mk hI4 hbt
    refine e_iload dL_law_55 rfl ?_
    refine e_iload_n dL_law_57 rfl rfl ?_
    refine e_icmp_ge (tgt := 78) dL_law_58 (by decide) (by omega) (by omega) (fun c58 => by exfalso; omega) (fun c58 => ?_)
    refine e_aload_n dL_law_61 rfl rfl ?_
    refine e_callH (As := [zR _]) dL_law_62 hoL_openSession mlL_150 rfl (Nat.le_of_ble_eq_true rfl) ⟨Nat.le_of_ble_eq_true rfl, Nat.le_of_ble_eq_true rfl, by show k + 10 ≤ 600192; omega, by show n + 242 ≤ 7295879; omega⟩ (c_L_openSession hl hR hI 0 (Eq.symm (if_neg (by omega)))) (fun E h9 q => (QI_inl q).elim) (fun v9 h9 q => ?_)
    obtain ⟨e1, qf, q3⟩ := q
    cases e1
    rw [lw1_0, hb1]
    have hR2 := (q3.resolve_right (fun z => by omega)).2
    refine e_iload dL_law_65 rfl ?_
    refine e_icmp_eq (tgt := 72) dL_law_67 (by decide) (by omega) (by omega) (fun c67 => ?_) (fun c67 => by exfalso; exact c67 rfl)
    refine e_iinc dL_law_72 (Nat.le_of_ble_eq_true rfl) rfl rfl rfl rfl ?_
    refine e_goto (tgt := 55) dL_law_75 (by decide) ?_
    refine e_wid (k + 20) (n + 400) (by show k + 10 ≤ _; omega) (by show n + 242 ≤ _; omega) ?_
    exact law_opn hl hG hL hns hnc d (by omega) (by omega) (by omega) (by omega) (BO_open hJ (by omega) hR2 qf)
/-! the law from its beginning -/
/-- nothing named -/
def zH0 : zH := (fun _ => 0, fun _ => 0, fun _ _ => 0, fun _ _ => 0, fun _ _ => none, fun _ _ => none, fun _ _ => 0, fun _ _ => 0, fun _ _ => 0)
def hL1 : zH := sl (sr (nw (sr (nw (sr (nw (nw zH0 2 (9 + 1) 0) 3 (100 + 5) 4) 900 2 (some 3)) 4 (100 + 4) 6) 901 2 (some 4)) 5 (100 + 1) 48) 902 2 (some 5)) 903 2 0
theorem hL1_K {m : Nat} (h : m < 2 ∨ 5 < m) : zK hL1 m = 0 := by
  show (if m = 5 then _ else if m = 4 then _ else if m = 3 then _ else if m = 2 then _ else 0) = 0
  rw [if_neg (by omega), if_neg (by omega), if_neg (by omega), if_neg (by omega)]
theorem S00 {f : Nat} {j : Int} : S0 f j = 0 := rfl
theorem I4_0 : I4 S0 0 := by
  refine ⟨⟨⟨by simp only [S00]; decide, by simp only [S00]; decide, by simp only [S00]; decide, by simp only [S00]; decide, fun s _ _ => ⟨by simp only [S00]; decide, by simp only [S00]; decide, by simp only [S00]; decide, by simp only [S00]; decide, by simp only [S00]; decide, by simp only [S00]; decide⟩⟩, fun s w hw => ?_, fun s i _ _ i0 i1 => ?_, fun c c0 c1 => ?_, fun s k _ _ k0 k1 => ?_⟩, ⟨fun s i j _ _ i0 ij j1 => ?_, fun s w hw h1 => ?_⟩, ⟨fun c c0 c1 => ?_, fun s _ _ => ⟨by simp only [S00]; decide, by simp only [S00]; decide, by simp only [S00]; decide, by simp only [S00]; decide, by simp only [S00]; decide, by simp only [S00]; decide⟩, fun c c0 c1 => ?_⟩, ⟨fun _ _ _ _ => ⟨rfl, rfl⟩, fun _ _ _ => ⟨rfl, rfl, rfl, rfl, rfl, rfl, rfl, fun _ _ _ => rfl, fun _ _ _ => rfl⟩, fun _ _ _ _ _ _ => ⟨rfl, rfl, rfl, fun _ _ _ => rfl⟩, fun _ _ _ => ⟨rfl, rfl, rfl, fun _ _ _ => rfl⟩, fun _ _ _ => ⟨by simp only [S00]; decide, by simp only [S00]; decide, fun z => absurd rfl z⟩⟩⟩
  · obtain ⟨_, _, a, b⟩ := hw
    have : S0 4 s = 0 := rfl
    omega
  · have : S0 16 s = 0 := rfl
    omega
  · have : S0 2 0 = 0 := rfl
    omega
  · have : S0 17 s = 0 := rfl
    omega
  · have : S0 16 s = 0 := rfl
    omega
  · cases h1
  · have : S0 2 0 = 0 := rfl
    omega
  · have : S0 2 0 = 0 := rfl
    omega
theorem RC_0 : RC S0 hL1 := by
  refine ⟨⟨⟨rfl, rfl, rfl, rfl, rfl⟩, ⟨rfl, rfl, fun s s0 s1 => ?_⟩, ⟨rfl, rfl, fun c c0 c1 => ?_⟩, rfl, rfl, fun j j0 j1 => rfl⟩, fun s hs => ?_, fun c hc => ?_, fun s j s1 s4 s0 hj => hL1_K (by unfold nS; omega), fun s w s0 s4 w0 w1 => ⟨hL1_K (by unfold nW; omega), hL1_K (by unfold nW; omega)⟩, fun c k c1 c6 c0 hk => hL1_K (by unfold nC; omega)⟩
  · have : S0 1 0 = 0 := rfl
    rw [if_neg (by omega)]
    rfl
  · have : S0 2 0 = 0 := rfl
    rw [if_neg (by omega)]
    rfl
  · have : S0 1 0 = 0 := rfl
    omega
  · have : S0 2 0 = 0 := rfl
    omega

set_option maxHeartbeats 4000000 in
set_option maxRecDepth 100000 in
/-- the law from its beginning -/
theorem law_AW {l : Launch} (hl : l.stackTraces = false) (hG : GMore l) {L : Nat} {f : Nat → Int32} (hL : L ≤ 260) : AW l (MLW L f) QW 0 0 0 [zY, zX, zX, zX, zX, zX, zX, zX, zX, zX, zX, zX, zX, zX, zX, zX, zX, zX, zX, zX] [] zH0 := by
  refine e_new (ci := 9) 2 dL_law_0 (by decide) clL_14 tn_X8.1 tn_X8.2 (by decide) rfl (Nat.le_of_ble_eq_true rfl) (Nat.le_of_ble_eq_true rfl) ?_
  refine e_dup dL_law_3 rfl ?_
  refine e_callI (As := []) dL_law_4 moX8_init miX8_init rfl rfl mlL_145 rfl (Nat.le_of_ble_eq_true rfl) ⟨Nat.le_of_ble_eq_true rfl, Nat.le_of_ble_eq_true rfl, Nat.le_of_ble_eq_true rfl, Nat.le_of_ble_eq_true rfl⟩ (c_X8_init hl (h := nw zH0 2 (9 + 1) 0) rfl rfl rfl rfl) (fun E h1 q => by cases q.1) (fun v9 h1 q => ?_)
  obtain ⟨e1, e2⟩ := q
  cases e1
  have e3 : h1 = hL1 := e2
  rw [e3]
  clear e2 e3 h1
  refine e_astore_n dL_law_7 rfl (Nat.le_of_ble_eq_true rfl) rfl rfl ?_
  refine e_iconst dL_law_8 ?_
  refine e_aloadY dL_law_9 rfl rfl ?_
  refine e_iconst dL_law_10 ?_
  refine e_iconst dL_law_11 ?_
  refine e_callSY (Yc := MLsome L f) (As := [zY, zI _, zI _]) dL_law_12 moL_some msL_some mlL_146 rfl rfl rfl (Nat.le_of_ble_eq_true rfl) ⟨Nat.le_of_ble_eq_true rfl, Nat.le_of_ble_eq_true rfl, Nat.le_of_ble_eq_true rfl, Nat.le_of_ble_eq_true rfl⟩ (c_L_some hl hL _ _ (by omega) (by omega) (by omega) (by omega)) (fun E h9 q => by cases q.1) (fun v9 h9 q => ?_)
  obtain ⟨e1, e2⟩ := q
  cases e1
  rw [e2]
  clear e2 h9
  refine e_iadd dL_law_15 ?_
  obtain ⟨ns, hns9⟩ : ∃ ns : Int, ns = 1 + smv L f 0 4 := ⟨_, rfl⟩
  have ys := smv_in (L := L) (f := f) (k := 0) (n := 4) (by omega)
  rw [← hns9]
  have hns : 1 ≤ ns ∧ ns ≤ 4 := by omega
  clear hns9
  refine e_istore_n dL_law_16 rfl (Nat.le_of_ble_eq_true rfl) rfl rfl ?_
  refine e_iconst dL_law_17 ?_
  refine e_aloadY dL_law_18 rfl rfl ?_
  refine e_iconst dL_law_19 ?_
  refine e_bipush dL_law_20 (by decide) ?_
  refine e_callSY (Yc := MLsome L f) (As := [zY, zI _, zI _]) dL_law_22 moL_some msL_some mlL_146 rfl rfl rfl (Nat.le_of_ble_eq_true rfl) ⟨Nat.le_of_ble_eq_true rfl, Nat.le_of_ble_eq_true rfl, Nat.le_of_ble_eq_true rfl, Nat.le_of_ble_eq_true rfl⟩ (c_L_some hl hL _ _ (by omega) (by omega) (by omega) (by omega)) (fun E h9 q => by cases q.1) (fun v9 h9 q => ?_)
  obtain ⟨e1, e2⟩ := q
  cases e1
  rw [e2]
  clear e2 h9
  refine e_iadd dL_law_25 ?_
  obtain ⟨nc, hnc9⟩ : ∃ nc : Int, nc = 1 + smv L f 1 6 := ⟨_, rfl⟩
  have yc := smv_in (L := L) (f := f) (k := 1) (n := 6) (by omega)
  rw [← hnc9]
  have hnc : 1 ≤ nc ∧ nc ≤ 6 := by omega
  clear hnc9
  refine e_istore_n dL_law_26 rfl (Nat.le_of_ble_eq_true rfl) rfl rfl ?_
  refine e_iload_n dL_law_27 rfl rfl ?_
  refine e_wid 10 100 (Nat.le_of_ble_eq_true rfl) (Nat.le_of_ble_eq_true rfl) ?_
  refine e_newa 6 0 nc.toNat dL_law_28 (by decide) rfl tw_arrInt (by omega) (by omega) (by decide) (hL1_K (by decide)) (Nat.le_of_ble_eq_true rfl) (by show 100 + nc.toNat ≤ 7295879; omega) ?_
  refine e_astore dL_law_30 (Nat.le_of_ble_eq_true rfl) rfl rfl ?_
  refine e_iload_n dL_law_32 rfl rfl ?_
  refine e_newa 7 0 ns.toNat dL_law_33 (by decide) rfl tw_arrInt (by omega) (by omega) (by decide) ((eqAt_nw (by decide)).1.trans (hL1_K (by decide))) (Nat.le_of_ble_eq_true rfl) (by show 100 + nc.toNat + ns.toNat ≤ 7295879; omega) ?_
  refine e_astore dL_law_35 (Nat.le_of_ble_eq_true rfl) rfl rfl ?_
  refine e_sipush dL_law_37 (by decide) ?_
  refine e_newa 99 1 256 dL_law_40 (by decide) rfl tw_arrBool rfl (by decide) (by decide) ((eqAt_nw (by decide)).1.trans ((eqAt_nw (by decide)).1.trans (hL1_K (by decide)))) (Nat.le_of_ble_eq_true rfl) (by show 100 + nc.toNat + ns.toNat + 256 ≤ 7295879; omega) ?_
  refine e_astore dL_law_42 (Nat.le_of_ble_eq_true rfl) rfl rfl ?_
  refine e_aload dL_law_44 rfl ?_
  refine e_iconst dL_law_46 ?_
  refine e_iconst dL_law_47 ?_
  refine e_zast dL_law_48 rfl (by omega) (by show (0 : Int) < 256; decide) (Or.inr rfl) ?_
  refine e_lconst (z := 0) dL_law_49 (by decide) ?_
  refine e_lstore dL_law_50 (Nat.le_of_ble_eq_true rfl) rfl rfl ?_
  refine e_iconst dL_law_52 ?_
  refine e_istore dL_law_53 (Nat.le_of_ble_eq_true rfl) rfl rfl ?_
  have fr : ∀ m, m ≠ 6 → m ≠ 7 → m ≠ 99 → eqAt m hL1 (sa (nw (nw (nw hL1 6 (100 + 0) nc) 7 (100 + 0) ns) 99 (100 + 1) 256) 99 0 1) := fun m h6 h7 h9 => eqAt_tr (eqAt_nw h6) (eqAt_tr (eqAt_nw h7) (eqAt_tr (eqAt_nw h9) (eqAt_sa h9)))
  refine e_wid 20 400 (Nat.le_of_ble_eq_true rfl) (by show 100 + nc.toNat + ns.toNat + 256 ≤ 400; omega) ?_
  refine law_opn hl hG hL hns hnc ns.toNat (S := S0) (by omega) (by omega) (by omega) (by omega) ⟨?_, I4_0, fun f hf j => Or.inl rfl, rfl, fun f j _ => rfl, ⟨rfl, rfl⟩, ⟨rfl, rfl, fun q => ?_⟩, rfl, rfl, za_eq⟩
  · exact RC_fr (fun m m2 m5 => fr m (by omega) (by omega) (by omega)) (fun m m1 _ => fr m (by omega) (by omega) (by omega)) I4_0.1.1 RC_0
  · exact (za_nn (by decide)).trans rfl
