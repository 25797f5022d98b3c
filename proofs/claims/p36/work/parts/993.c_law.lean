/-! p36: the law, the clipboard's turn and the ticks' -/
set_option maxHeartbeats 4000000 in
set_option maxRecDepth 100000 in
/-- a session copies, and another may paste or not -/
theorem br_clip {l : Launch} (hl : l.stackTraces = false) (hG : GMore l) {L : Nat} {f : Nat → Int32} (hL : L ≤ 260) {S : S9} {h : zH} {B ns nc turn at9 what q c w : Int} {k n : Nat} (hk : k + 100 ≤ 600192) (hn : n + 13000 ≤ 7295879) (hB9 : B ≤ 1000000) (hJ : LJ S B ns nc h) (hq : 0 ≤ q ∧ q < ns) (hc : 0 ≤ c ∧ c < nc) (hw : 0 ≤ w ∧ w < 6 ∧ (S 4 q ≠ 0 → w < S 4 q)) (ha : 0 ≤ at9 ∧ at9 ≤ 330) (K : ∀ S' h', LJ S' (B + 20000) ns nc h' → AW l (MLW L f) QW (k + 100) (n + 13000) 1230 [zY, zR (some 2), zI ns, zI nc, zR (some 6), zR (some 7), zR (some 99), zL (S' 3 0), zX, zI turn, zI at9, zX, zX, zI c, zX, zX, zX, zX, zX, zX] [] h') : AW l (MLW L f) QW k n 899 [zY, zR (some 2), zI ns, zI nc, zR (some 6), zR (some 7), zR (some 99), zL (S 3 0), zX, zI turn, zI at9, zI what, zI q, zI c, zI w, zX, zX, zX, zX, zX] [] h := by
  obtain ⟨hR, hI4, hbt, hB0, ⟨⟨hb1, hb2⟩, ⟨r1, r2, r3⟩, ⟨w1, w2, w3⟩, d1, d2⟩, hd⟩ := id hJ
  have hI := II_mk hI4 hbt
  have hN : IN S := hI4.1.1
  obtain ⟨n1, n2, n3, n4, n5⟩ := id hN
  have n5q := n5 q (by omega) (by omega)
  have hqS : isS S q := ⟨by omega, by omega⟩
  have hcC : isC S c := ⟨by omega, by omega⟩
  have hqz : zin q := ⟨by omega, by omega⟩
  have hcz : zin c := ⟨by omega, by omega⟩
  have hwz : zin w := ⟨by omega, by omega⟩
  obtain ⟨hq0, hq1⟩ := hq
  obtain ⟨hc0, hc1⟩ := hc
  obtain ⟨hw0, hw6, hw9⟩ := hw
  obtain ⟨ha0, ha1⟩ := ha
  have y3_3 := smv_in (L := L) (f := f) (k := at9 + 3) (n := 3) (by omega)
  have y4_3 := smv_in (L := L) (f := f) (k := at9 + 4) (n := 3) (by omega)
  have y5_9999 := smv_in (L := L) (f := f) (k := at9 + 5) (n := 9999) (by omega)
  refine e_iload dL_law_899 rfl ?_
  refine e_iconst dL_law_901 ?_
  refine e_iadd dL_law_902 ?_
  refine e_aloadY dL_law_903 rfl rfl ?_
  refine e_iload dL_law_904 rfl ?_
  refine e_iconst dL_law_906 ?_
  refine e_iadd dL_law_907 ?_
  refine e_iconst dL_law_908 ?_
  refine e_callSY (Yc := MLsome L f) (As := [zY, zI _, zI _]) dL_law_909 moL_some msL_some mlL_146 rfl rfl rfl (Nat.le_of_ble_eq_true rfl) ⟨Nat.le_of_ble_eq_true rfl, Nat.le_of_ble_eq_true rfl, by show k + 0 ≤ 600192; omega, by show n + 0 ≤ 7295879; omega⟩ (c_L_some hl hL _ _ (by omega) (by omega) (by omega) (by omega)) (fun E h9 q => by cases q.1) (fun v9 h9 q => ?_)
  obtain ⟨e1, e2⟩ := q
  cases e1
  rw [e2]
  clear e2 h9
  refine e_iadd dL_law_912 ?_
  refine e_iload_n dL_law_913 rfl rfl ?_
  refine e_irem dL_law_914 (by omega) (by omega) (by omega) (by omega) ?_
  obtain ⟨to, hto⟩ : ∃ to : Int, to = (q + 1 + smv L f (at9 + 3) 3) % ns := ⟨_, rfl⟩
  rw [← hto]
  have htr : 0 ≤ to ∧ to < ns := by rw [hto]; exact ⟨Int.emod_nonneg _ (by omega), Int.emod_lt_of_pos _ (by omega)⟩
  clear hto
  have htz : zin to := ⟨by omega, by omega⟩
  have htS : isS S to := ⟨by omega, by omega⟩
  refine e_istore dL_law_915 (Nat.le_of_ble_eq_true rfl) rfl rfl ?_
  refine e_aloadY dL_law_917 rfl rfl ?_
  refine e_iload dL_law_918 rfl ?_
  refine e_iconst dL_law_920 ?_
  refine e_iadd dL_law_921 ?_
  refine e_iconst dL_law_922 ?_
  refine e_callSY (Yc := MLsome L f) (As := [zY, zI _, zI _]) dL_law_923 moL_some msL_some mlL_146 rfl rfl rfl (Nat.le_of_ble_eq_true rfl) ⟨Nat.le_of_ble_eq_true rfl, Nat.le_of_ble_eq_true rfl, by show k + 0 ≤ 600192; omega, by show n + 0 ≤ 7295879; omega⟩ (c_L_some hl hL _ _ (by omega) (by omega) (by omega) (by omega)) (fun E h9 q => by cases q.1) (fun v9 h9 q => ?_)
  obtain ⟨e1, e2⟩ := q
  cases e1
  rw [e2]
  clear e2 h9
  obtain ⟨kd, hkd⟩ : ∃ kd : Int, kd = smv L f (at9 + 4) 3 := ⟨_, rfl⟩
  rw [← hkd]
  have hkr : 0 ≤ kd ∧ kd ≤ 2 := by omega
  clear hkd
  have hkz : zin kd := ⟨by omega, by omega⟩
  refine e_istore dL_law_926 (Nat.le_of_ble_eq_true rfl) rfl rfl ?_
  refine e_iload dL_law_928 rfl ?_
  refine e_iload dL_law_930 rfl ?_
  refine e_icmp_eq (tgt := 1053) dL_law_932 (by decide) (by omega) (by omega) (fun c932 => ?_) (fun c932 => ?_)
  · skip
    refine e_goto (tgt := 1230) dL_law_1053 (by decide) ?_
    refine e_mask [true, true, true, true, true, true, true, true, true, true, true, false, false, true, false, false, false, false, false, false] ?_
    refine e_wid (k + 100) (n + 13000) (by show k + 0 ≤ _; omega) (by show n + 0 ≤ _; omega) ?_
    exact K S h (LJ_st hJ (fun _ _ => eqAt_rf) hR (I4_le (show B ≤ B + 20000 by omega) hI4) hbt (by omega) (fun f9 hf j => rfl) hd)
  · skip
    obtain ⟨i9, hi9⟩ : ∃ i9 : Int, i9 = (4 * q + to) * 3 + kd := ⟨_, rfl⟩
    have e9 : (4 * q + to) * 3 + kd = i9 := hi9.symm
    refine e_aload_n dL_law_935 rfl rfl ?_
    refine e_bipush dL_law_936 (by decide) ?_
    refine e_iload dL_law_938 rfl ?_
    refine e_iload dL_law_940 rfl ?_
    refine e_iload dL_law_942 rfl ?_
    refine e_iconst dL_law_944 ?_
    refine e_callH (As := [zR _, zI _, zI _, zI _, zI _, zI _]) dL_law_945 hoL_is mlL_172 rfl (Nat.le_of_ble_eq_true rfl) ⟨Nat.le_of_ble_eq_true rfl, Nat.le_of_ble_eq_true rfl, by show k + 17 ≤ 600192; omega, by show n + 136 ≤ 7295879; omega⟩ (c_L_is_a hl hR hI q hqz to htz kd hkz 0 (Or.inl rfl) 0 (Eq.symm (Eq.trans (if_neg (nn ⟨hqS, htS⟩)) (if_neg (by omega))))) (fun E h9 q => (QI_inl q).elim) (fun v9 h9 q => ?_)
    obtain ⟨e1, qf, q3⟩ := q
    cases e1
    rw [lw2_0]
    have hR2 := (q3.resolve_right (fun z => by omega)).2
    rw [e9] at hR2 ⊢
    obtain ⟨was, hwas⟩ : ∃ was : Int, was = (if S 25 i9 = 0 then (0 : Int) else 1) := ⟨_, rfl⟩
    rw [← hwas]
    have hw1 : was = 0 ∨ was = 1 := by rw [hwas]; split <;> omega
    clear hwas
    have hI42 : I4 (up S 25 i9 0) B := I4_allow hI4
    have hbt2 : IBt (up S 25 i9 0) := IBt_up (fun _ => Or.inl rfl) hbt
    have e2 : ∀ f9, f9 ≠ 25 → ∀ j, up S 25 i9 0 f9 j = S f9 j := fun f9 hf j => up_f hf
    have i2 : up S 25 i9 0 25 i9 = 0 := up_eq
    generalize up S 25 i9 0 = S2 at hR2 hI42 hbt2 e2 i2
    have hI2 := II_mk hI42 hbt2
    have hq2 : isS S2 q := by unfold isS; rw [e2 1 (by decide)]; exact hqS
    have ht2 : isS S2 to := by unfold isS; rw [e2 1 (by decide)]; exact htS
    have g23 := (hI42.2.2.2.2.2.2.2 q (by omega) (by omega))
    refine e_istore dL_law_948 (Nat.le_of_ble_eq_true rfl) rfl rfl ?_
    refine e_aload_n dL_law_950 rfl rfl ?_
    refine e_iload dL_law_951 rfl ?_
    refine e_iload dL_law_953 rfl ?_
    refine e_aloadY dL_law_955 rfl rfl ?_
    refine e_iload dL_law_956 rfl ?_
    refine e_iconst dL_law_958 ?_
    refine e_iadd dL_law_959 ?_
    refine e_sipush dL_law_960 (by decide) ?_
    refine e_callSY (Yc := MLsome L f) (As := [zY, zI _, zI _]) dL_law_963 moL_some msL_some mlL_146 rfl rfl rfl (Nat.le_of_ble_eq_true rfl) ⟨Nat.le_of_ble_eq_true rfl, Nat.le_of_ble_eq_true rfl, by show k + 17 ≤ 600192; omega, by show n + 136 ≤ 7295879; omega⟩ (c_L_some hl hL _ _ (by omega) (by omega) (by omega) (by omega)) (fun E h9 q => by cases q.1) (fun v9 h9 q => ?_)
    obtain ⟨e1, e2⟩ := q
    cases e1
    rw [e2]
    clear e2 h9
    obtain ⟨vv, hvv⟩ : ∃ vv : Int, vv = smv L f (at9 + 5) 9999 := ⟨_, rfl⟩
    rw [← hvv]
    have hvr : 0 ≤ vv ∧ vv ≤ 9999 := by omega
    have hvz : zin vv := ⟨by omega, by omega⟩
    refine e_callH (As := [zR _, zI _, zI _, zI _]) dL_law_966 hoL_copy mlL_191 rfl (Nat.le_of_ble_eq_true rfl) ⟨Nat.le_of_ble_eq_true rfl, Nat.le_of_ble_eq_true rfl, by show k + 19 ≤ 600192; omega, by show n + 148 ≤ 7295879; omega⟩ (c_L_copy hl hR2 hI2 q hqz kd hkz vv hvz 0 (Eq.symm (Eq.trans (if_neg (nn hq2)) (if_neg (nn ⟨by omega, by omega⟩))))) (fun E h9 q => (QI_inl q).elim) (fun v9 h9 q => ?_)
    obtain ⟨e1, qf2, q3⟩ := q
    cases e1
    rw [lw2_0]
    have hR3 := (q3.resolve_right (fun z => by omega)).2
    have hold : -1 ≤ (if S2 22 q = 0 then (-1 : Int) else S2 23 q) ∧ (if S2 22 q = 0 then (-1 : Int) else S2 23 q) ≤ 9999 := by
      split
      · omega
      · rename_i z
        have := g23.2.2 z
        omega
    generalize (if S2 22 q = 0 then (-1 : Int) else S2 23 q) = old at hold ⊢
    have hI43 : I4 (copS S2 q kd vv) B := I4_copy hI42 hq2.2 hkr (by omega)
    have hbt3 : IBt (copS S2 q kd vv) := IBt_cop hbt2
    have e3 : ∀ f9, (f9 ≠ 22 ∧ f9 ≠ 23 ∧ f9 ≠ 24) → ∀ j, copS S2 q kd vv f9 j = S2 f9 j := fun f9 hf j => copS_f hf.1 hf.2.1 hf.2.2
    have i3 : copS S2 q kd vv 22 q = kd + 1 := by rw [copS_22, if_pos rfl]
    have j3 : copS S2 q kd vv 23 q = vv := by rw [copS_23, if_pos rfl]
    have k3 : ∀ o : Int, 0 ≤ o → o < 4 → copS S2 q kd vv 24 (4 * q + o) = b2 (o = q) := fun o o0 o4 => copS_24 o0 o4
    generalize copS S2 q kd vv = S3 at hR3 hI43 hbt3 e3 i3 j3 k3
    have hI3 := II_mk hI43 hbt3
    have hq3 : isS S3 q := by unfold isS; rw [e3 1 (by decide)]; exact hq2
    have ht3 : isS S3 to := by unfold isS; rw [e3 1 (by decide)]; exact ht2
    have m3 : mayN S3 q to 4 = 0 := may_no (by omega) ((k3 q (by omega) (by omega)).trans (b2_t rfl)) (fun z => c932 z.symm) (by rw [e3 25 (by decide), i3, show (4 * q + to) * 3 + (kd + 1 - 1) = i9 by omega, i2]; decide) 4 (by omega)
    refine e_iconst dL_law_969 ?_
    refine e_icmp_lt (tgt := 1051) dL_law_970 (by decide) (by omega) (by omega) (fun c970 => by exfalso; omega) (fun c970 => ?_)
    refine e_aload_n dL_law_973 rfl rfl ?_
    refine e_iload dL_law_974 rfl ?_
    refine e_iload dL_law_976 rfl ?_
    refine e_callH (As := [zR _, zI _, zI _]) dL_law_978 hoL_paste mlL_193 rfl (Nat.le_of_ble_eq_true rfl) ⟨Nat.le_of_ble_eq_true rfl, Nat.le_of_ble_eq_true rfl, by show k + 24 ≤ 600192; omega, by show n + 178 ≤ 7295879; omega⟩ (c_L_paste hl hR3 hI3 q hqz to htz 3 (Eq.symm (Eq.trans (if_neg (fun z => z.elim (nn ⟨hq3, ht3⟩) (fun y => c932 y.symm))) (Eq.trans (if_neg (by rw [i3]; omega)) (if_pos m3))))) (fun E h9 q => (QI_inl q).elim) (fun v9 h9 q => ?_)
    obtain ⟨e1, qf3, q3⟩ := q
    cases e1
    rw [lw3_3]
    have hR4 := (q3.resolve_left (fun z => by omega)).2
    refine e_ldcI (z := -1500000) dL_law_981 ctL_83 ?_
    refine e_icmp_ne (tgt := 1051) dL_law_983 (by decide) (by decide) (by decide) (fun c983 => by exfalso; exact c983 rfl) (fun c983 => ?_)
    refine e_aload_n dL_law_986 rfl rfl ?_
    refine e_bipush dL_law_987 (by decide) ?_
    refine e_iload dL_law_989 rfl ?_
    refine e_iload dL_law_991 rfl ?_
    refine e_iload dL_law_993 rfl ?_
    refine e_iconst dL_law_995 ?_
    refine e_callH (As := [zR _, zI _, zI _, zI _, zI _, zI _]) dL_law_996 hoL_is mlL_172 rfl (Nat.le_of_ble_eq_true rfl) ⟨Nat.le_of_ble_eq_true rfl, Nat.le_of_ble_eq_true rfl, by show k + 41 ≤ 600192; omega, by show n + 314 ≤ 7295879; omega⟩ (c_L_is_a hl hR4 hI3 q hqz to htz kd hkz 1 (Or.inr rfl) 0 (Eq.symm (Eq.trans (if_neg (nn ⟨hq3, ht3⟩)) (if_neg (by omega))))) (fun E h9 q => (QI_inl q).elim) (fun v9 h9 q => ?_)
    obtain ⟨e1, qf4, q3⟩ := q
    cases e1
    rw [lw2_0]
    have hR5 := (q3.resolve_right (fun z => by omega)).2
    rw [e9] at hR5 ⊢
    rw [e3 25 (by decide), i2, if_pos (rfl : (0 : Int) = 0)]
    have hI44 : I4 (up S3 25 i9 1) B := I4_allow hI43
    have hbt4 : IBt (up S3 25 i9 1) := IBt_up (fun _ => Or.inr rfl) hbt3
    have e4 : ∀ f9, f9 ≠ 25 → ∀ j, up S3 25 i9 1 f9 j = S3 f9 j := fun f9 hf j => up_f hf
    have i4 : up S3 25 i9 1 25 i9 = 1 := up_eq
    generalize up S3 25 i9 1 = S4 at hR5 hI44 hbt4 e4 i4
    have hI4b := II_mk hI44 hbt4
    have hq4 : isS S4 q := by unfold isS; rw [e4 1 (by decide)]; exact hq3
    have ht4 : isS S4 to := by unfold isS; rw [e4 1 (by decide)]; exact ht3
    have m4 : mayN S4 q to 4 = 1 := may_yes (fun o o0 o4 oq => by rw [e4 24 (by decide), k3 o o0 o4, b2_f oq]; decide) (by rw [e4 22 (by decide), i3, show (4 * q + to) * 3 + (kd + 1 - 1) = i9 by omega, i4]) 4 (by omega)
    refine e_if_ne (tgt := 1051) dL_law_999 (by decide) (by decide) (fun c999 => by exfalso; exact c999 rfl) (fun c999 => ?_)
    refine e_aload_n dL_law_1002 rfl rfl ?_
    refine e_iload dL_law_1003 rfl ?_
    refine e_iload dL_law_1005 rfl ?_
    refine e_callH (As := [zR _, zI _, zI _]) dL_law_1007 hoL_paste mlL_193 rfl (Nat.le_of_ble_eq_true rfl) ⟨Nat.le_of_ble_eq_true rfl, Nat.le_of_ble_eq_true rfl, by show k + 46 ≤ 600192; omega, by show n + 344 ≤ 7295879; omega⟩ (c_L_paste hl hR5 hI4b q hqz to htz 0 (Eq.symm (Eq.trans (if_neg (fun z => z.elim (nn ⟨hq4, ht4⟩) (fun y => c932 y.symm))) (Eq.trans (if_neg (by rw [e4 22 (by decide), i3]; omega)) (if_neg (by rw [m4]; decide)))))) (fun E h9 q => (QI_inl q).elim) (fun v9 h9 q => ?_)
    obtain ⟨e1, qf5, q3⟩ := q
    cases e1
    rw [lw3_0, e4 23 (by decide), j3]
    have hR6 := (q3.resolve_right (fun z => by omega)).2
    have hI45 : I4 (pasS S4 q to) B := I4_paste hI44 hq4 ht4.2 (by omega)
    have hbt5 : IBt (pasS S4 q to) := IBt_pas hbt4
    have e5 : ∀ f9, (f9 ≠ 22 ∧ f9 ≠ 23 ∧ f9 ≠ 24) → ∀ j, pasS S4 q to f9 j = S4 f9 j := fun f9 hf j => pasS_f hf.1 hf.2.1 hf.2.2
    generalize pasS S4 q to = S5 at hR6 hI45 hbt5 e5
    have hI5 := II_mk hI45 hbt5
    have hq5 : isS S5 q := by unfold isS; rw [e5 1 (by decide)]; exact hq4
    have ht5 : isS S5 to := by unfold isS; rw [e5 1 (by decide)]; exact ht4
    refine e_aloadY dL_law_1010 rfl rfl ?_
    refine e_iload dL_law_1011 rfl ?_
    refine e_iconst dL_law_1013 ?_
    refine e_iadd dL_law_1014 ?_
    refine e_sipush dL_law_1015 (by decide) ?_
    refine e_callSY (Yc := MLsome L f) (As := [zY, zI _, zI _]) dL_law_1018 moL_some msL_some mlL_146 rfl rfl rfl (Nat.le_of_ble_eq_true rfl) ⟨Nat.le_of_ble_eq_true rfl, Nat.le_of_ble_eq_true rfl, by show k + 46 ≤ 600192; omega, by show n + 344 ≤ 7295879; omega⟩ (c_L_some hl hL _ _ (by omega) (by omega) (by omega) (by omega)) (fun E h9 q => by cases q.1) (fun v9 h9 q => ?_)
    obtain ⟨e1, e2⟩ := q
    cases e1
    rw [e2]
    clear e2 h9
    rw [← hvv]
    refine e_icmp_ne (tgt := 1051) dL_law_1021 (by decide) (by omega) (by omega) (fun c1021 => by exfalso; exact c1021 rfl) (fun c1021 => ?_)
    refine e_aload_n dL_law_1024 rfl rfl ?_
    refine e_bipush dL_law_1025 (by decide) ?_
    refine e_iload dL_law_1027 rfl ?_
    refine e_iload dL_law_1029 rfl ?_
    refine e_iload dL_law_1031 rfl ?_
    refine e_iload dL_law_1033 rfl ?_
    refine e_iconst dL_law_1035 ?_
    have J1044 : ∀ u9 : Int, (u9 = 0 ∨ u9 = 1) → AW l (MLW L f) QW (k + 46) (n + 344) 1044 [zY, zR (some 2), zI ns, zI nc, zR (some 6), zR (some 7), zR (some 99), zL (S 3 0), zX, zI turn, zI at9, zI what, zI q, zI c, zI w, zI to, zI kd, zI was, zX, zX] [zI u9, zI kd, zI to, zI q, zI 97, zR (some 2)] h9 := by
      intro u9 hu9
      refine e_callH (As := [zR _, zI _, zI _, zI _, zI _, zI _]) dL_law_1044 hoL_is mlL_172 rfl (Nat.le_of_ble_eq_true rfl) ⟨Nat.le_of_ble_eq_true rfl, Nat.le_of_ble_eq_true rfl, by show k + 63 ≤ 600192; omega, by show n + 480 ≤ 7295879; omega⟩ (c_L_is_a hl hR6 hI5 q hqz to htz kd hkz u9 hu9 0 (Eq.symm (Eq.trans (if_neg (nn ⟨hq5, ht5⟩)) (if_neg (by omega))))) (fun E h9 q => (QI_inl q).elim) (fun v9 h9 q => ?_)
      obtain ⟨e1, qf6, q3⟩ := q
      cases e1
      rw [lw2_0]
      have hR7 := (q3.resolve_right (fun z => by omega)).2
      rw [e9] at hR7 ⊢
      rw [e5 25 (by decide), i4, if_neg (show ¬ (1 : Int) = 0 by decide)]
      refine e_iconst dL_law_1047 ?_
      refine e_icmp_eq (tgt := 1053) dL_law_1048 (by decide) (by decide) (by decide) (fun c1048 => ?_) (fun c1048 => by exfalso; exact c1048 rfl)
      refine e_goto (tgt := 1230) dL_law_1053 (by decide) ?_
      have e6 : ∀ f9, (f9 ≠ 22 ∧ f9 ≠ 23 ∧ f9 ≠ 24 ∧ f9 ≠ 25) → ∀ j, up S5 25 i9 u9 f9 j = S f9 j := fun f9 hf j => by rw [up_f hf.2.2.2, e5 f9 ⟨hf.1, hf.2.1, hf.2.2.1⟩, e4 f9 hf.2.2.2, e3 f9 ⟨hf.1, hf.2.1, hf.2.2.1⟩, e2 f9 hf.2.2.2]
      have hJ2 := (LJ_st hJ (FQ_tr (FQ_tr (FQ_tr (FQ_tr (FQ_tr qf qf2) qf3) qf4) qf5) qf6) hR7 (I4_le (show B ≤ B + 20000 by omega) (I4_allow hI45)) (IBt_up (fun _ => hu9) hbt5) (by omega) (fun f9 hf j => e6 f9 (by omega) j) (HD_ag (fun f9 hf j => e6 f9 (by omega) j) hd))
      refine e_mask [true, true, true, true, true, true, true, true, true, true, true, false, false, true, false, false, false, false, false, false] ?_
      refine e_wid (k + 100) (n + 13000) (by show k + 63 ≤ _; omega) (by show n + 480 ≤ _; omega) ?_
      have z9 := K _ _ hJ2
      rw [e6 3 (by decide) 0] at z9
      exact z9
    refine e_icmp_ne (tgt := 1043) dL_law_1036 (by decide) (by omega) (by decide) (fun c1036 => ?_) (fun c1036 => ?_)
    · skip
      refine e_iconst dL_law_1043 ?_
      exact J1044 0 (Or.inl rfl)
    · skip
      refine e_iconst dL_law_1039 ?_
      refine e_goto (tgt := 1044) dL_law_1040 (by decide) ?_
      exact J1044 1 (Or.inr rfl)
/-- a whole number on the stack by another name of its word -/
theorem e_wrapE {l : Launch} {Y : zM} {Q : zO → zH → Prop} {k n pc : Nat} {ls st : List zV} {h : zH} {z w : Int} (he : Int32.ofInt z = Int32.ofInt w) (K : AW l Y Q k n pc ls (zI w :: st) h) : AW l Y Q k n pc ls (zI z :: st) h := by
  intro p e s m args below meth c D dA ad0 h0 A C H locs ad lm hP hE hS hL o1 o2
  have K := K p e s m args below meth c D dA ad0 h0 A C H locs ad lm hP hE hS hL o1 (zo_cons trivial (zo_tl o2))
  rw [List.map_cons, zc_wrap he.symm] at K
  exact K
set_option maxHeartbeats 4000000 in
set_option maxRecDepth 100000 in
/-- ticks pass -/
theorem br_tick {l : Launch} (hl : l.stackTraces = false) (hG : GMore l) {L : Nat} {f : Nat → Int32} (hL : L ≤ 260) {S : S9} {h : zH} {B ns nc turn at9 what q c w : Int} {k n : Nat} (hk : k + 100 ≤ 600192) (hn : n + 13000 ≤ 7295879) (hB9 : B ≤ 1000000) (hJ : LJ S B ns nc h) (hq : 0 ≤ q ∧ q < ns) (hc : 0 ≤ c ∧ c < nc) (hw : 0 ≤ w ∧ w < 6 ∧ (S 4 q ≠ 0 → w < S 4 q)) (ha : 0 ≤ at9 ∧ at9 ≤ 330) (K : ∀ S' h', LJ S' (B + 20000) ns nc h' → AW l (MLW L f) QW (k + 100) (n + 13000) 1230 [zY, zR (some 2), zI ns, zI nc, zR (some 6), zR (some 7), zR (some 99), zL (S' 3 0), zX, zI turn, zI at9, zX, zX, zI c, zX, zX, zX, zX, zX, zX] [] h') : AW l (MLW L f) QW k n 1056 [zY, zR (some 2), zI ns, zI nc, zR (some 6), zR (some 7), zR (some 99), zL (S 3 0), zX, zI turn, zI at9, zI what, zI q, zI c, zI w, zX, zX, zX, zX, zX] [] h := by
  obtain ⟨hR, hI4, hbt, hB0, ⟨⟨hb1, hb2⟩, ⟨r1, r2, r3⟩, ⟨w1, w2, w3⟩, d1, d2⟩, hd⟩ := id hJ
  have hI := II_mk hI4 hbt
  have hN : IN S := hI4.1.1
  obtain ⟨n1, n2, n3, n4, n5⟩ := id hN
  have n5q := n5 q (by omega) (by omega)
  have hqS : isS S q := ⟨by omega, by omega⟩
  have hcC : isC S c := ⟨by omega, by omega⟩
  have hqz : zin q := ⟨by omega, by omega⟩
  have hcz : zin c := ⟨by omega, by omega⟩
  have hwz : zin w := ⟨by omega, by omega⟩
  obtain ⟨hq0, hq1⟩ := hq
  obtain ⟨hc0, hc1⟩ := hc
  obtain ⟨hw0, hw6, hw9⟩ := hw
  obtain ⟨ha0, ha1⟩ := ha
  have y3_3 := smv_in (L := L) (f := f) (k := at9 + 3) (n := 3) (by omega)
  have y4_12 := smv_in (L := L) (f := f) (k := at9 + 4) (n := 12) (by omega)
  have y5_8 := smv_in (L := L) (f := f) (k := at9 + 5) (n := 8) (by omega)
  obtain ⟨x9, hx9⟩ : ∃ x9 : Int, x9 = smv L f (at9 + 4) 12 := ⟨_, rfl⟩
  obtain ⟨u9, hu9⟩ : ∃ u9 : Int, u9 = smv L f (at9 + 5) 8 := ⟨_, rfl⟩
  have hxr : 0 ≤ x9 ∧ x9 < 12 := by omega
  have hur : 0 ≤ u9 ∧ u9 < 8 := by omega
  have hxz : zin x9 := ⟨by omega, by omega⟩
  have huz : zin u9 := ⟨by omega, by omega⟩
  obtain ⟨kk, hkk⟩ : ∃ kk : Int, kk = (if ¬ (isS S q ∧ isXY x9 u9) then 1 else if ¬ ((1 : Int) ≤ 1 ∧ 1 ≤ S 32 q) then 2 else 0) := ⟨_, rfl⟩
  obtain ⟨k2, hk2⟩ : ∃ k2 : Int, k2 = (if ¬ isS S q then 1 else if ¬ S 26 q = 1 then 2 else 0) := ⟨_, rfl⟩
  have hXY : isXY x9 u9 := ⟨⟨by omega, by omega⟩, by omega, by omega⟩
  have eix : (60 * q + (1 - 1)) * 96 + (u9 * 12 + x9) = 60 * q * 96 + (u9 * 12 + x9) := by omega
  obtain ⟨pl, hplz, hple, hpl⟩ : ∃ pl : Int, zin pl ∧ Int32.ofInt (lw2 kk (S 34 ((60 * q + (1 - 1)) * 96 + (u9 * 12 + x9))) (-2500000) (-3000000)) = Int32.ofInt pl ∧ (0 ≤ pl → 1 ≤ S 32 q ∧ Int32.ofInt (S 34 (60 * q * 96 + (u9 * 12 + x9))) = Int32.ofInt pl) := by
    by_cases y32 : 1 ≤ S 32 q
    · have k0 : kk = 0 := by rw [hkk, if_neg (nn ⟨hqS, hXY⟩), if_neg (nn ⟨by omega, y32⟩)]
      obtain ⟨w9, hw9a, hw9b⟩ := zwrap (S 34 (60 * q * 96 + (u9 * 12 + x9)))
      exact ⟨w9, hw9a, by rw [k0, lw2_0, eix]; exact hw9b.symm, fun _ => ⟨y32, hw9b.symm⟩⟩
    · have k0 : kk = 2 := by rw [hkk, if_neg (nn ⟨hqS, hXY⟩), if_pos (by omega)]
      exact ⟨-3000000, by decide, by rw [k0, lw2_2], fun z => absurd z (by decide)⟩
  have hcl := cntL_in (S := S) (s := q)
  obtain ⟨lf, hlf⟩ : ∃ lf : Int, lf = lw2 k2 (cntL S q) (-2500000) (-1000000) := ⟨_, rfl⟩
  have hlf2 : (¬ S 26 q = 1 ∧ lf = -1000000) ∨ (S 26 q = 1 ∧ lf = cntL S q) := by
    by_cases y26 : S 26 q = 1
    · have k0 : k2 = 0 := by rw [hk2, if_neg (nn hqS), if_neg (nn y26)]
      exact Or.inr ⟨y26, by rw [hlf, k0, lw2_0]⟩
    · have k0 : k2 = 2 := by rw [hk2, if_neg (nn hqS), if_pos y26]
      exact Or.inl ⟨y26, by rw [hlf, k0, lw2_2]⟩
  obtain ⟨cb, hcb⟩ : ∃ cb : Int, cb = cntB S c := ⟨_, rfl⟩
  have hcbr := cntB_in (S := S) (c := c)
  refine e_iconst dL_law_1056 ?_
  refine e_aloadY dL_law_1057 rfl rfl ?_
  refine e_iload dL_law_1058 rfl ?_
  refine e_iconst dL_law_1060 ?_
  refine e_iadd dL_law_1061 ?_
  refine e_iconst dL_law_1062 ?_
  refine e_callSY (Yc := MLsome L f) (As := [zY, zI _, zI _]) dL_law_1063 moL_some msL_some mlL_146 rfl rfl rfl (Nat.le_of_ble_eq_true rfl) ⟨Nat.le_of_ble_eq_true rfl, Nat.le_of_ble_eq_true rfl, by show k + 0 ≤ 600192; omega, by show n + 0 ≤ 7295879; omega⟩ (c_L_some hl hL _ _ (by omega) (by omega) (by omega) (by omega)) (fun E h9 q => by cases q.1) (fun v9 h9 q => ?_)
  obtain ⟨e1, e2⟩ := q
  cases e1
  rw [e2]
  clear e2 h9
  refine e_iadd dL_law_1066 ?_
  obtain ⟨tt, htt⟩ : ∃ tt : Int, tt = 1 + smv L f (at9 + 3) 3 := ⟨_, rfl⟩
  rw [← htt]
  have htr : 1 ≤ tt ∧ tt ≤ 3 := by omega
  clear htt
  have httz : zin tt := ⟨by omega, by omega⟩
  refine e_istore dL_law_1067 (Nat.le_of_ble_eq_true rfl) rfl rfl ?_
  refine e_aload_n dL_law_1069 rfl rfl ?_
  refine e_iload dL_law_1070 rfl ?_
  refine e_iconst dL_law_1072 ?_
  refine e_aloadY dL_law_1073 rfl rfl ?_
  refine e_iload dL_law_1074 rfl ?_
  refine e_iconst dL_law_1076 ?_
  refine e_iadd dL_law_1077 ?_
  refine e_bipush dL_law_1078 (by decide) ?_
  refine e_callSY (Yc := MLsome L f) (As := [zY, zI _, zI _]) dL_law_1080 moL_some msL_some mlL_146 rfl rfl rfl (Nat.le_of_ble_eq_true rfl) ⟨Nat.le_of_ble_eq_true rfl, Nat.le_of_ble_eq_true rfl, by show k + 0 ≤ 600192; omega, by show n + 0 ≤ 7295879; omega⟩ (c_L_some hl hL _ _ (by omega) (by omega) (by omega) (by omega)) (fun E h9 q => by cases q.1) (fun v9 h9 q => ?_)
  obtain ⟨e1, e2⟩ := q
  cases e1
  rw [e2]
  clear e2 h9
  rw [← hx9]
  refine e_aloadY dL_law_1083 rfl rfl ?_
  refine e_iload dL_law_1084 rfl ?_
  refine e_iconst dL_law_1086 ?_
  refine e_iadd dL_law_1087 ?_
  refine e_bipush dL_law_1088 (by decide) ?_
  refine e_callSY (Yc := MLsome L f) (As := [zY, zI _, zI _]) dL_law_1090 moL_some msL_some mlL_146 rfl rfl rfl (Nat.le_of_ble_eq_true rfl) ⟨Nat.le_of_ble_eq_true rfl, Nat.le_of_ble_eq_true rfl, by show k + 0 ≤ 600192; omega, by show n + 0 ≤ 7295879; omega⟩ (c_L_some hl hL _ _ (by omega) (by omega) (by omega) (by omega)) (fun E h9 q => by cases q.1) (fun v9 h9 q => ?_)
  obtain ⟨e1, e2⟩ := q
  cases e1
  rw [e2]
  clear e2 h9
  rw [← hu9]
  refine e_callH (As := [zR _, zI _, zI _, zI _, zI _]) dL_law_1093 hoL_played mlL_189 rfl (Nat.le_of_ble_eq_true rfl) ⟨Nat.le_of_ble_eq_true rfl, Nat.le_of_ble_eq_true rfl, by show k + 3 ≤ 600192; omega, by show n + 18 ≤ 7295879; omega⟩ (c_L_played hl hR hI q hqz 1 (by decide) x9 hxz u9 huz kk hkk) (fun E h9 q => (QI_inl q).elim) (fun v9 h9 q => ?_)
  obtain ⟨e1, qf, hR2⟩ := QI_all q
  clear q
  cases e1
  refine e_wrapE hple ?_
  refine e_istore dL_law_1096 (Nat.le_of_ble_eq_true rfl) rfl rfl ?_
  refine e_aload_n dL_law_1098 rfl rfl ?_
  refine e_iload dL_law_1099 rfl ?_
  refine e_callH (As := [zR _, zI _]) dL_law_1101 hoL_left mlL_181 rfl (Nat.le_of_ble_eq_true rfl) ⟨Nat.le_of_ble_eq_true rfl, Nat.le_of_ble_eq_true rfl, by show k + 5 ≤ 600192; omega, by show n + 30 ≤ 7295879; omega⟩ (c_L_left hl hR2 hI q hqz k2 hk2) (fun E h9 q => (QI_inl q).elim) (fun v9 h9 q => ?_)
  obtain ⟨e1, qf2, hR3⟩ := QI_all q
  clear q
  cases e1
  rw [← hlf]
  refine e_istore dL_law_1104 (Nat.le_of_ble_eq_true rfl) rfl rfl ?_
  refine e_aload_n dL_law_1106 rfl rfl ?_
  refine e_iload dL_law_1107 rfl ?_
  refine e_callH (As := [zR _, zI _]) dL_law_1109 hoL_behind mlL_141 rfl (Nat.le_of_ble_eq_true rfl) ⟨Nat.le_of_ble_eq_true rfl, Nat.le_of_ble_eq_true rfl, by show k + 6 ≤ 600192; omega, by show n + 36 ≤ 7295879; omega⟩ (c_L_behind hl hR3 hI c hcz 0 (Eq.symm (if_neg (nn hcC)))) (fun E h9 q => (QI_inl q).elim) (fun v9 h9 q => ?_)
  obtain ⟨e1, qf3, hR4⟩ := QI_all q
  clear q
  cases e1
  rw [lw1_0, ← hcb]
  refine e_istore dL_law_1112 (Nat.le_of_ble_eq_true rfl) rfl rfl ?_
  refine e_aload_n dL_law_1114 rfl rfl ?_
  refine e_iload dL_law_1115 rfl ?_
  refine e_callH (As := [zR _, zI _]) dL_law_1117 hoL_tick mlL_195 rfl (Nat.le_of_ble_eq_true rfl) ⟨Nat.le_of_ble_eq_true rfl, Nat.le_of_ble_eq_true rfl, by show k + 7 ≤ 600192; omega, by show n + 42 ≤ 7295879; omega⟩ (c_L_tick hl hR4 hI tt httz ⟨hB0, by omega⟩ 0 (Eq.symm (if_neg (nn ⟨by omega, by omega⟩)))) (fun E h9 q => (QI_inl q).elim) (fun v9 h9 q => ?_)
  obtain ⟨e1, qf4, q3⟩ := q
  cases e1
  rw [lw1_0]
  have hR5 := (q3.resolve_right (fun z => by omega)).2
  have hd2 : HD (tikS S tt) (hadP h) := HD_tikS hI4.1 hd
  have hI42 : I4 (tikS S tt) (B + 2000) := I4_tick hI4 (by omega)
  have hbt2 : IBt (tikS S tt) := IBt_tikS hbt
  have e2 : ∀ f9, (f9 = 1 ∨ f9 = 2 ∨ f9 = 4 ∨ f9 = 35) → ∀ j, tikS S tt f9 j = S f9 j := fun f9 hf j => (up_f (by omega)).trans (tikN_f (by omega) _)
  have e23 : tikS S tt 3 0 = S 3 0 + tikV S tt.toNat := up_eq
  have h34 : 1 ≤ S 32 q → tikS S tt 34 (60 * q * 96 + (u9 * 12 + x9)) = S 34 (60 * q * 96 + (u9 * 12 + x9)) ∧ S 32 q ≤ tikS S tt 32 q := fun z => by
    have z2 := tikN_34 hI4.1 hI4.2.2.1 z (show 0 ≤ u9 * 12 + x9 by omega) (by omega) tt.toNat
    exact ⟨(up_f (by decide)).trans z2.1, by rw [show tikS S tt 32 q = tikN S tt.toNat 32 q from up_f (by decide)]; exact z2.2⟩
  have hmv : (S 26 q = 1 → cntL S q ≤ 2) → tikS S tt 26 q ≠ 1 := fun z => by
    rw [show tikS S tt 26 q = tikN S tt.toNat 26 q from up_f (by decide)]
    exact tikN_mv hqS z tt.toNat (by omega)
  have hpos : 0 < cb → 0 < tikV S tt.toNat := fun z => tikV_pos hI4.1 hcC (by rw [← hcb]; exact z) tt.toNat (by omega)
  have hvin := tikV_in (S := S) tt.toNat
  have htn : (tt.toNat : Int) = tt := by omega
  rw [htn] at hvin
  generalize tikV S tt.toNat = tv at e23 hpos hvin ⊢
  generalize tikS S tt = S2 at hR5 hd2 hI42 hbt2 e2 e23 h34 hmv
  have hI2 := II_mk hI42 hbt2
  have hq2 : isS S2 q := by unfold isS; rw [e2 1 (by omega)]; exact hqS
  have hd14 := FQ_tr (FQ_tr (FQ_tr qf qf2) qf3) qf4
  refine e_istore dL_law_1120 (Nat.le_of_ble_eq_true rfl) rfl rfl ?_
  refine e_iload dL_law_1122 rfl ?_
  refine e_if_lt (tgt := 1174) dL_law_1124 (by decide) (by omega) (fun c1124 => by exfalso; omega) (fun c1124 => ?_)
  refine e_iload dL_law_1127 rfl ?_
  refine e_bipush dL_law_1129 (by decide) ?_
  refine e_iload dL_law_1131 rfl ?_
  refine e_imul dL_law_1133 ?_
  refine e_icmp_gt (tgt := 1174) dL_law_1134 (by decide) (by omega) (by omega) (fun c1134 => by exfalso; omega) (fun c1134 => ?_)
  have J1230 : ∀ h5 : zH, RC S2 h5 → FQ h h5 → AW l (MLW L f) QW (k + 90) (n + 12500) 1230 [zY, zR (some 2), zI ns, zI nc, zR (some 6), zR (some 7), zR (some 99), zL (S 3 0 + tv), zX, zI turn, zI at9, zI what, zI q, zI c, zI w, zI tt, zI pl, zI lf, zI cb, zI tv] [] h5 := by
    intro h5 g5 f5
    have hJ2 : LJ S2 (B + 20000) ns nc h5 := (LJ_st hJ f5 g5 (I4_le (show B + 2000 ≤ B + 20000 by omega) hI42) (hbt2) (by omega) (fun f9 hf j => e2 f9 hf j) hd2)
    refine e_mask [true, true, true, true, true, true, true, true, true, true, true, false, false, true, false, false, false, false, false, false] ?_
    refine e_wid (k + 100) (n + 13000) (by show k + 90 ≤ _; omega) (by show n + 12500 ≤ _; omega) ?_
    have z9 := K _ _ hJ2
    rw [e23] at z9
    exact z9
  have J1176 : ∀ h5 : zH, RC S2 h5 → FQ h h5 → AW l (MLW L f) QW (k + 60) (n + 10000) 1176 [zY, zR (some 2), zI ns, zI nc, zR (some 6), zR (some 7), zR (some 99), zL (S 3 0), zX, zI turn, zI at9, zI what, zI q, zI c, zI w, zI tt, zI pl, zI lf, zI cb, zI tv] [] h5 := by
    intro h5 g5 f5
    have J1194 : AW l (MLW L f) QW (k + 60) (n + 10000) 1194 [zY, zR (some 2), zI ns, zI nc, zR (some 6), zR (some 7), zR (some 99), zL (S 3 0 + tv), zX, zI turn, zI at9, zI what, zI q, zI c, zI w, zI tt, zI pl, zI lf, zI cb, zI tv] [] h5 := by
      refine e_aload_n dL_law_1194 rfl rfl ?_
      refine e_callV (As := []) (cb := 9) dL_law_1195 moX8_carried mvX8_carried mlL_197 (by decide) rfl (show zK _ 2 = 9 + 1 from g5.1.1.1) rfl (Nat.le_of_ble_eq_true rfl) ⟨Nat.le_of_ble_eq_true rfl, Nat.le_of_ble_eq_true rfl, by show k + 60 ≤ 600192; omega, by show n + 10000 ≤ 7295879; omega⟩ (c_X8_carried hl g5 hI2) (fun E h9 q => by cases q.1) (fun v9 h9 q => ?_)
      obtain ⟨e1, e5⟩ := q
      cases e1
      rw [e5]
      clear e5 h9
      refine e_lload dL_law_1198 rfl ?_
      refine e_lcmp_eq dL_law_1200 e23 ?_
      refine e_if_eq (tgt := 1206) dL_law_1201 (by decide) (by decide) (fun c1201 => ?_) (fun c1201 => by exfalso; exact c1201 rfl)
      refine e_iload dL_law_1206 rfl ?_
      refine e_if_lt (tgt := 1230) dL_law_1208 (by decide) (by omega) (fun c1208 => ?_) (fun c1208 => ?_)
      · skip
        refine e_wid (k + 90) (n + 12500) (by show k + 60 ≤ _; omega) (by show n + 10000 ≤ _; omega) ?_
        exact J1230 h5 g5 f5
      · skip
        refine e_iload dL_law_1211 rfl ?_
        refine e_iconst dL_law_1213 ?_
        refine e_icmp_gt (tgt := 1230) dL_law_1214 (by decide) (by omega) (by omega) (fun c1214 => ?_) (fun c1214 => ?_)
        · skip
          refine e_wid (k + 90) (n + 12500) (by show k + 60 ≤ _; omega) (by show n + 10000 ≤ _; omega) ?_
          exact J1230 h5 g5 f5
        · skip
          have hm2 := hmv (fun _ => by omega)
          refine e_aload_n dL_law_1217 rfl rfl ?_
          refine e_iload dL_law_1218 rfl ?_
          refine e_callH (As := [zR _, zI _]) dL_law_1220 hoL_left mlL_181 rfl (Nat.le_of_ble_eq_true rfl) ⟨Nat.le_of_ble_eq_true rfl, Nat.le_of_ble_eq_true rfl, by show k + 62 ≤ 600192; omega, by show n + 10012 ≤ 7295879; omega⟩ (c_L_left hl g5 hI2 q hqz 2 (Eq.symm (Eq.trans (if_neg (nn hq2)) (if_pos hm2)))) (fun E h9 q => (QI_inl q).elim) (fun v9 h9 q => ?_)
          obtain ⟨e1, qf6, hR7⟩ := QI_all q
          clear q
          cases e1
          rw [lw2_2]
          refine e_ldcI (z := -1000000) dL_law_1223 ctL_21 ?_
          refine e_icmp_eq (tgt := 1230) dL_law_1225 (by decide) (by decide) (by decide) (fun c1225 => ?_) (fun c1225 => by exfalso; exact c1225 rfl)
          refine e_wid (k + 90) (n + 12500) (by show k + 62 ≤ _; omega) (by show n + 10012 ≤ _; omega) ?_
          exact J1230 _ hR7 (FQ_tr f5 qf6)
    refine e_lload dL_law_1176 rfl ?_
    refine e_iload dL_law_1178 rfl ?_
    refine e_i2l dL_law_1180 (by omega) ?_
    refine e_ladd dL_law_1181 ?_
    refine e_lstore dL_law_1182 (Nat.le_of_ble_eq_true rfl) rfl rfl ?_
    refine e_iload dL_law_1184 rfl ?_
    refine e_if_ne (tgt := 1194) dL_law_1186 (by decide) (by omega) (fun c1186 => ?_) (fun c1186 => ?_)
    · skip
      exact J1194
    · skip
      refine e_iload dL_law_1189 rfl ?_
      refine e_if_gt (tgt := 1204) dL_law_1191 (by decide) (by omega) (fun c1191 => by exfalso; omega) (fun c1191 => ?_)
      exact J1194
  refine e_iload dL_law_1137 rfl ?_
  refine e_if_lt (tgt := 1176) dL_law_1139 (by decide) (by omega) (fun c1139 => ?_) (fun c1139 => ?_)
  · skip
    refine e_wid (k + 60) (n + 10000) (by show k + 7 ≤ _; omega) (by show n + 42 ≤ _; omega) ?_
    exact J1176 _ hR5 hd14
  · skip
    obtain ⟨y32, hpe⟩ := hpl (by omega)
    obtain ⟨z34, z32⟩ := h34 y32
    refine e_aload_n dL_law_1142 rfl rfl ?_
    refine e_iload dL_law_1143 rfl ?_
    refine e_iconst dL_law_1145 ?_
    refine e_aloadY dL_law_1146 rfl rfl ?_
    refine e_iload dL_law_1147 rfl ?_
    refine e_iconst dL_law_1149 ?_
    refine e_iadd dL_law_1150 ?_
    refine e_bipush dL_law_1151 (by decide) ?_
    refine e_callSY (Yc := MLsome L f) (As := [zY, zI _, zI _]) dL_law_1153 moL_some msL_some mlL_146 rfl rfl rfl (Nat.le_of_ble_eq_true rfl) ⟨Nat.le_of_ble_eq_true rfl, Nat.le_of_ble_eq_true rfl, by show k + 7 ≤ 600192; omega, by show n + 42 ≤ 7295879; omega⟩ (c_L_some hl hL _ _ (by omega) (by omega) (by omega) (by omega)) (fun E h9 q => by cases q.1) (fun v9 h9 q => ?_)
    obtain ⟨e1, e2⟩ := q
    cases e1
    rw [e2]
    clear e2 h9
    rw [← hx9]
    refine e_aloadY dL_law_1156 rfl rfl ?_
    refine e_iload dL_law_1157 rfl ?_
    refine e_iconst dL_law_1159 ?_
    refine e_iadd dL_law_1160 ?_
    refine e_bipush dL_law_1161 (by decide) ?_
    refine e_callSY (Yc := MLsome L f) (As := [zY, zI _, zI _]) dL_law_1163 moL_some msL_some mlL_146 rfl rfl rfl (Nat.le_of_ble_eq_true rfl) ⟨Nat.le_of_ble_eq_true rfl, Nat.le_of_ble_eq_true rfl, by show k + 7 ≤ 600192; omega, by show n + 42 ≤ 7295879; omega⟩ (c_L_some hl hL _ _ (by omega) (by omega) (by omega) (by omega)) (fun E h9 q => by cases q.1) (fun v9 h9 q => ?_)
    obtain ⟨e1, e2⟩ := q
    cases e1
    rw [e2]
    clear e2 h9
    rw [← hu9]
    refine e_callH (As := [zR _, zI _, zI _, zI _, zI _]) dL_law_1166 hoL_played mlL_189 rfl (Nat.le_of_ble_eq_true rfl) ⟨Nat.le_of_ble_eq_true rfl, Nat.le_of_ble_eq_true rfl, by show k + 10 ≤ 600192; omega, by show n + 60 ≤ 7295879; omega⟩ (c_L_played hl hR5 hI2 q hqz 1 (by decide) x9 hxz u9 huz 0 (Eq.symm (Eq.trans (if_neg (nn ⟨hq2, hXY⟩)) (if_neg (nn ⟨by omega, by omega⟩))))) (fun E h9 q => (QI_inl q).elim) (fun v9 h9 q => ?_)
    obtain ⟨e1, qf5, hR6⟩ := QI_all q
    clear q
    cases e1
    rw [lw2_0, eix, z34]
    refine e_wrapE hpe ?_
    refine e_iload dL_law_1169 rfl ?_
    refine e_icmp_eq (tgt := 1176) dL_law_1171 (by decide) (by omega) (by omega) (fun c1171 => ?_) (fun c1171 => by exfalso; exact c1171 rfl)
    refine e_wid (k + 60) (n + 10000) (by show k + 10 ≤ _; omega) (by show n + 60 ≤ _; omega) ?_
    exact J1176 _ hR6 (FQ_tr hd14 qf5)
