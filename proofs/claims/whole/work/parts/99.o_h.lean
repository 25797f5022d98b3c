theorem zm_eq {h : zH} {n : Nat} {i v : Int} : zm (sm h n i v) n i = v := by
  show z3 (zm h) n i v n i = v
  exact z3_eq
theorem zd_eq {h : zH} {n : Nat} {i : Int} {v : UInt64} : zd (sd h n i v) n i = v := by
  show z3 (zd h) n i v n i = v
  exact z3_eq
set_option maxHeartbeats 4000000 in
set_option maxRecDepth 100000 in
theorem c_L_openSession {l : Launch} (hl : l.stackTraces = false) {S : S9} {h : zH} {B : Int} (hR : RC S h) (hI : II S B) (h6 : zK h 6 = 102 ∧ zN h 6 = 1)  : zCH l ML_openSession [zR (some 2), zR (some 6)] h (QL S h (if S 1 0 = 4 then 1 else 0) ((Int32.ofInt (S 1 0)).toInt) (up S 1 0 (S 1 0 + 1))) := by
  have hc0 := c_X8_openSession hl hR hI 
  obtain ⟨kk, hkk⟩ : ∃ kk : Int, kk = (if S 1 0 = 4 then 1 else 0) := ⟨_, rfl⟩
  rw [← hkk] at hc0 ⊢
  refine zCH_of hl rfl (by decide) rfl rfl (Nat.le_of_ble_eq_true rfl) ?_
  refine e_aload_n dL_openSession_0 rfl rfl ?_
  refine e_iconst dL_openSession_1 ?_
  refine e_aload_n dL_openSession_2 rfl rfl ?_
  refine e_callV (As := []) (cb := 9) dL_openSession_3 moX8_openSession mvX8_openSession mlL_7 (by decide) rfl (show zK h 2 = 9 + 1 from hR.1.1.1) rfl (Nat.le_of_ble_eq_true rfl) ⟨by decide, by decide, by decide, by decide⟩ hc0 (fun E h9 q => by
      obtain ⟨qf, q0, qx, qR⟩ := QC_r q
      obtain ⟨e1, e2⟩ := xs1 qx
      subst e2
      have hk1 : kk = 1 := by omega
      refine AX_catch (from_ := 0) (to_ := 8) (hp := 11) (ct := 13) (j := 2) [] [] rfl ⟨by decide, by decide⟩ (by decide) exS_x clLh_13 (by decide +kernel) (List.forall_mem_nil _) (by decide) rfl rfl (Or.inl ⟨2, rfl, dL_openSession_11, ?_⟩)
      refine e_iconst dL_openSession_12 ?_
      refine e_iret dL_openSession_13 rfl trivial (by decide) (by decide) ?_
      exact ⟨by rw [hk1], fun m hm => qf m (by omega), ⟨(qf 6 (by omega)).1.trans h6.1, (qf 6 (by omega)).2.1.trans h6.2⟩, Or.inr ⟨by omega, qR⟩⟩) (fun v h9 q => ?_)
  obtain ⟨qf, q0, qv, qR⟩ := QC_l q
  subst qv
  have g0 : zK h9 6 = 102 := (qf 6 (by omega)).1.trans h6.1
  have g1 : zN h9 6 = 1 := (qf 6 (by omega)).2.1.trans h6.2
  refine e_i2lw dL_openSession_6 ?_
  refine e_last dL_openSession_7 g0 (by decide) (by rw [g1]; decide) ?_
  refine e_goto (tgt := 14) dL_openSession_8 (by decide) ?_
  refine e_iconst dL_openSession_14 ?_
  refine e_iret dL_openSession_15 rfl trivial (by decide) (by decide) ?_
  exact ⟨by rw [q0], fun m hm => eqAt_tr (qf m (by omega)) (eqAt_sm (by omega)), ⟨g0, g1⟩, Or.inl ⟨q0, zm_eq, RC_67 (fun m m6 m7 => eqAt_sm m6) qR⟩⟩
set_option maxHeartbeats 4000000 in
set_option maxRecDepth 100000 in
theorem c_L_openWindow {l : Launch} (hl : l.stackTraces = false) {S : S9} {h : zH} {B : Int} (hR : RC S h) (hI : II S B) (h6 : zK h 6 = 102 ∧ zN h 6 = 1) (s : Int) (hsz : zin s) (x : Int) (hxz : zin x) (y : Int) (hyz : zin y) (a : Int) (haz : zin a) (b : Int) (hbz : zin b) : zCH l ML_openWindow [zR (some 2), zI s, zI x, zI y, zI a, zI b, zR (some 6)] h (QL S h (if ¬ isS S s then 1 else if ¬ ((-5 ≤ x ∧ x ≤ 11) ∧ (-5 ≤ y ∧ y ≤ 7) ∧ (1 ≤ a ∧ a ≤ 12) ∧ (1 ≤ b ∧ b ≤ 8)) then 2 else if S 4 s = 6 then 3 else 0) ((Int32.ofInt (S 4 s)).toInt) (opW S s x y a b)) := by
  have hc0 := c_X8_openWindow hl hR hI s hsz x hxz y hyz a haz b hbz
  obtain ⟨kk, hkk⟩ : ∃ kk : Int, kk = (if ¬ isS S s then 1 else if ¬ ((-5 ≤ x ∧ x ≤ 11) ∧ (-5 ≤ y ∧ y ≤ 7) ∧ (1 ≤ a ∧ a ≤ 12) ∧ (1 ≤ b ∧ b ≤ 8)) then 2 else if S 4 s = 6 then 3 else 0) := ⟨_, rfl⟩
  rw [← hkk] at hc0 ⊢
  refine zCH_of hl rfl (by decide) rfl rfl (Nat.le_of_ble_eq_true rfl) ?_
  refine e_aload dL_openWindow_0 rfl ?_
  refine e_iconst dL_openWindow_2 ?_
  refine e_aload_n dL_openWindow_3 rfl rfl ?_
  refine e_iload_n dL_openWindow_4 rfl rfl ?_
  refine e_iload_n dL_openWindow_5 rfl rfl ?_
  refine e_iload_n dL_openWindow_6 rfl rfl ?_
  refine e_iload dL_openWindow_7 rfl ?_
  refine e_iload dL_openWindow_9 rfl ?_
  refine e_callV (As := [zI _, zI _, zI _, zI _, zI _]) (cb := 9) dL_openWindow_11 moX8_openWindow mvX8_openWindow mlL_15 (by decide) rfl (show zK h 2 = 9 + 1 from hR.1.1.1) rfl (Nat.le_of_ble_eq_true rfl) ⟨by decide, by decide, by decide, by decide⟩ hc0 (fun E h9 q => by
      obtain ⟨qf, q0, qx, qR⟩ := QC_r q
      rcases xs3 qx with ⟨e1, e2⟩ | ⟨e1, e2⟩ | ⟨e1, e2⟩
      · subst e2
        have hk1 : kk = 1 := by omega
        refine AX_catch (from_ := 0) (to_ := 16) (hp := 19) (ct := 19) (j := 7) [] [(0, 16, 23, 21), (0, 16, 27, 13)] rfl ⟨by decide, by decide⟩ (by decide) exI_x clLh_19 (by decide +kernel) (List.forall_mem_nil _) (by decide) rfl rfl (Or.inr ⟨dL_openWindow_19, ?_⟩)
        refine e_iconst dL_openWindow_21 ?_
        refine e_iret dL_openWindow_22 rfl trivial (by decide) (by decide) ?_
        exact ⟨by rw [hk1], fun m hm => qf m (by omega), ⟨(qf 6 (by omega)).1.trans h6.1, (qf 6 (by omega)).2.1.trans h6.2⟩, Or.inr ⟨by omega, qR⟩⟩
      · subst e2
        have hk1 : kk = 2 := by omega
        refine AX_catch (from_ := 0) (to_ := 16) (hp := 23) (ct := 21) (j := 7) [(0, 16, 19, 19)] [(0, 16, 27, 13)] rfl ⟨by decide, by decide⟩ (by decide) exA_x clLh_21 (by decide +kernel) (List.forall_mem_cons.mpr ⟨⟨by decide, exI, exI_x, by decide +kernel, clLh_19⟩, (List.forall_mem_nil _)⟩) (by decide) rfl rfl (Or.inr ⟨dL_openWindow_23, ?_⟩)
        refine e_iconst dL_openWindow_25 ?_
        refine e_iret dL_openWindow_26 rfl trivial (by decide) (by decide) ?_
        exact ⟨by rw [hk1], fun m hm => qf m (by omega), ⟨(qf 6 (by omega)).1.trans h6.1, (qf 6 (by omega)).2.1.trans h6.2⟩, Or.inr ⟨by omega, qR⟩⟩
      · subst e2
        have hk1 : kk = 3 := by omega
        refine AX_catch (from_ := 0) (to_ := 16) (hp := 27) (ct := 13) (j := 7) [(0, 16, 19, 19), (0, 16, 23, 21)] [] rfl ⟨by decide, by decide⟩ (by decide) exS_x clLh_13 (by decide +kernel) (List.forall_mem_cons.mpr ⟨⟨by decide, exI, exI_x, by decide +kernel, clLh_19⟩, (List.forall_mem_cons.mpr ⟨⟨by decide, exA, exA_x, by decide +kernel, clLh_21⟩, (List.forall_mem_nil _)⟩)⟩) (by decide) rfl rfl (Or.inr ⟨dL_openWindow_27, ?_⟩)
        refine e_iconst dL_openWindow_29 ?_
        refine e_iret dL_openWindow_30 rfl trivial (by decide) (by decide) ?_
        exact ⟨by rw [hk1], fun m hm => qf m (by omega), ⟨(qf 6 (by omega)).1.trans h6.1, (qf 6 (by omega)).2.1.trans h6.2⟩, Or.inr ⟨by omega, qR⟩⟩) (fun v h9 q => ?_)
  obtain ⟨qf, q0, qv, qR⟩ := QC_l q
  subst qv
  have g0 : zK h9 6 = 102 := (qf 6 (by omega)).1.trans h6.1
  have g1 : zN h9 6 = 1 := (qf 6 (by omega)).2.1.trans h6.2
  refine e_i2lw dL_openWindow_14 ?_
  refine e_last dL_openWindow_15 g0 (by decide) (by rw [g1]; decide) ?_
  refine e_goto (tgt := 31) dL_openWindow_16 (by decide) ?_
  refine e_iconst dL_openWindow_31 ?_
  refine e_iret dL_openWindow_32 rfl trivial (by decide) (by decide) ?_
  exact ⟨by rw [q0], fun m hm => eqAt_tr (qf m (by omega)) (eqAt_sm (by omega)), ⟨g0, g1⟩, Or.inl ⟨q0, zm_eq, RC_67 (fun m m6 m7 => eqAt_sm m6) qR⟩⟩
set_option maxHeartbeats 4000000 in
set_option maxRecDepth 100000 in
theorem c_L_closeWindow {l : Launch} (hl : l.stackTraces = false) {S : S9} {h : zH} {B : Int} (hR : RC S h) (hI : II S B) (h6 : zK h 6 = 102 ∧ zN h 6 = 1) (s : Int) (hsz : zin s) (w : Int) (hwz : zin w) (p : Int) (hpp : isWn S s w → posO S s (6 * s + w) p) : zCH l ML_closeWindow [zR (some 2), zI s, zI w, zR (some 6)] h (QL S h (if ¬ isWn S s w then 1 else 0) (if (S 11 (6 * s + w)) = 0 then 0 else 1) (cloS S s (6 * s + w) p)) := by
  have hc0 := c_X8_closeWindow hl hR hI s hsz w hwz p hpp
  obtain ⟨kk, hkk⟩ : ∃ kk : Int, kk = (if ¬ isWn S s w then 1 else 0) := ⟨_, rfl⟩
  rw [← hkk] at hc0 ⊢
  have hv01 : (S 11 (6 * s + w)) = 0 ∨ (S 11 (6 * s + w)) = 1 := (hI.2.2.2.2 11 (by decide) _)
  refine zCH_of hl rfl (by decide) rfl rfl (Nat.le_of_ble_eq_true rfl) ?_
  refine e_aload_n dL_closeWindow_0 rfl rfl ?_
  refine e_iconst dL_closeWindow_1 ?_
  refine e_aload_n dL_closeWindow_2 rfl rfl ?_
  refine e_iload_n dL_closeWindow_3 rfl rfl ?_
  refine e_iload_n dL_closeWindow_4 rfl rfl ?_
  refine e_callV (As := [zI _, zI _]) (cb := 9) dL_closeWindow_5 moX8_closeWindow mvX8_closeWindow mlL_23 (by decide) rfl (show zK h 2 = 9 + 1 from hR.1.1.1) rfl (Nat.le_of_ble_eq_true rfl) ⟨by decide, by decide, by decide, by decide⟩ hc0 (fun E h9 q => by
      obtain ⟨qf, q0, qx, qR⟩ := QC_r q
      obtain ⟨e1, e2⟩ := xs1 qx
      subst e2
      have hk1 : kk = 1 := by omega
      refine AX_catch (from_ := 0) (to_ := 17) (hp := 20) (ct := 19) (j := 4) [] [] rfl ⟨by decide, by decide⟩ (by decide) exI_x clLh_19 (by decide +kernel) (List.forall_mem_nil _) (by decide) rfl rfl (Or.inr ⟨dL_closeWindow_20, ?_⟩)
      refine e_iconst dL_closeWindow_22 ?_
      refine e_iret dL_closeWindow_23 rfl trivial (by decide) (by decide) ?_
      exact ⟨by rw [hk1], fun m hm => qf m (by omega), ⟨(qf 6 (by omega)).1.trans h6.1, (qf 6 (by omega)).2.1.trans h6.2⟩, Or.inr ⟨by omega, qR⟩⟩) (fun v h9 q => ?_)
  obtain ⟨qf, q0, qv, qR⟩ := QC_l q
  subst qv
  have g0 : zK h9 6 = 102 := (qf 6 (by omega)).1.trans h6.1
  have g1 : zN h9 6 = 1 := (qf 6 (by omega)).2.1.trans h6.2
  refine e_if_eq (tgt := 15) dL_closeWindow_8 (by decide) (by omega) (fun c0 => ?_) (fun c0 => ?_)
  · skip
    refine e_lconst (z := 0) dL_closeWindow_15 (by decide) ?_
    refine e_last dL_closeWindow_16 g0 (by decide) (by rw [g1]; decide) ?_
    refine e_goto (tgt := 24) dL_closeWindow_17 (by decide) ?_
    refine e_iconst dL_closeWindow_24 ?_
    refine e_iret dL_closeWindow_25 rfl trivial (by decide) (by decide) ?_
    exact ⟨by rw [q0], fun m hm => eqAt_tr (qf m (by omega)) (eqAt_sm (by omega)), ⟨g0, g1⟩, Or.inl ⟨q0, by rw [if_pos c0]; exact zm_eq, RC_67 (fun m m6 m7 => eqAt_sm m6) qR⟩⟩
  · skip
    refine e_lconst (z := 1) dL_closeWindow_11 (by decide) ?_
    refine e_goto (tgt := 16) dL_closeWindow_12 (by decide) ?_
    refine e_last dL_closeWindow_16 g0 (by decide) (by rw [g1]; decide) ?_
    refine e_goto (tgt := 24) dL_closeWindow_17 (by decide) ?_
    refine e_iconst dL_closeWindow_24 ?_
    refine e_iret dL_closeWindow_25 rfl trivial (by decide) (by decide) ?_
    exact ⟨by rw [q0], fun m hm => eqAt_tr (qf m (by omega)) (eqAt_sm (by omega)), ⟨g0, g1⟩, Or.inl ⟨q0, by rw [if_neg c0]; exact zm_eq, RC_67 (fun m m6 m7 => eqAt_sm m6) qR⟩⟩
set_option maxHeartbeats 4000000 in
set_option maxRecDepth 100000 in
theorem c_L_moveWindow {l : Launch} (hl : l.stackTraces = false) {S : S9} {h : zH} {B : Int} (hR : RC S h) (hI : II S B) (h6 : zK h 6 = 102 ∧ zN h 6 = 1) (s : Int) (hsz : zin s) (w : Int) (hwz : zin w) (x : Int) (hxz : zin x) (y : Int) (hyz : zin y) : zCH l ML_moveWindow [zR (some 2), zI s, zI w, zI x, zI y, zR (some 6)] h (QL S h (if ¬ isWn S s w then 1 else if ¬ ((-5 ≤ x ∧ x ≤ 11) ∧ (-5 ≤ y ∧ y ≤ 7)) then 2 else 0) ((Int32.ofInt (movN S (movS S (6 * s + w) x y) s)).toInt) (movS S (6 * s + w) x y)) := by
  have hc0 := c_X8_moveWindow hl hR hI s hsz w hwz x hxz y hyz
  obtain ⟨kk, hkk⟩ : ∃ kk : Int, kk = (if ¬ isWn S s w then 1 else if ¬ ((-5 ≤ x ∧ x ≤ 11) ∧ (-5 ≤ y ∧ y ≤ 7)) then 2 else 0) := ⟨_, rfl⟩
  rw [← hkk] at hc0 ⊢
  refine zCH_of hl rfl (by decide) rfl rfl (Nat.le_of_ble_eq_true rfl) ?_
  refine e_aload dL_moveWindow_0 rfl ?_
  refine e_iconst dL_moveWindow_2 ?_
  refine e_aload_n dL_moveWindow_3 rfl rfl ?_
  refine e_iload_n dL_moveWindow_4 rfl rfl ?_
  refine e_iload_n dL_moveWindow_5 rfl rfl ?_
  refine e_iload_n dL_moveWindow_6 rfl rfl ?_
  refine e_iload dL_moveWindow_7 rfl ?_
  refine e_callV (As := [zI _, zI _, zI _, zI _]) (cb := 9) dL_moveWindow_9 moX8_moveWindow mvX8_moveWindow mlL_27 (by decide) rfl (show zK h 2 = 9 + 1 from hR.1.1.1) rfl (Nat.le_of_ble_eq_true rfl) ⟨by decide, by decide, by decide, by decide⟩ hc0 (fun E h9 q => by
      obtain ⟨qf, q0, qx, qR⟩ := QC_r q
      rcases xs2 qx with ⟨e1, e2⟩ | ⟨e1, e2⟩
      · subst e2
        have hk1 : kk = 1 := by omega
        refine AX_catch (from_ := 0) (to_ := 14) (hp := 17) (ct := 19) (j := 6) [] [(0, 14, 21, 21)] rfl ⟨by decide, by decide⟩ (by decide) exI_x clLh_19 (by decide +kernel) (List.forall_mem_nil _) (by decide) rfl rfl (Or.inr ⟨dL_moveWindow_17, ?_⟩)
        refine e_iconst dL_moveWindow_19 ?_
        refine e_iret dL_moveWindow_20 rfl trivial (by decide) (by decide) ?_
        exact ⟨by rw [hk1], fun m hm => qf m (by omega), ⟨(qf 6 (by omega)).1.trans h6.1, (qf 6 (by omega)).2.1.trans h6.2⟩, Or.inr ⟨by omega, qR⟩⟩
      · subst e2
        have hk1 : kk = 2 := by omega
        refine AX_catch (from_ := 0) (to_ := 14) (hp := 21) (ct := 21) (j := 6) [(0, 14, 17, 19)] [] rfl ⟨by decide, by decide⟩ (by decide) exA_x clLh_21 (by decide +kernel) (List.forall_mem_cons.mpr ⟨⟨by decide, exI, exI_x, by decide +kernel, clLh_19⟩, (List.forall_mem_nil _)⟩) (by decide) rfl rfl (Or.inr ⟨dL_moveWindow_21, ?_⟩)
        refine e_iconst dL_moveWindow_23 ?_
        refine e_iret dL_moveWindow_24 rfl trivial (by decide) (by decide) ?_
        exact ⟨by rw [hk1], fun m hm => qf m (by omega), ⟨(qf 6 (by omega)).1.trans h6.1, (qf 6 (by omega)).2.1.trans h6.2⟩, Or.inr ⟨by omega, qR⟩⟩) (fun v h9 q => ?_)
  obtain ⟨qf, q0, qv, qR⟩ := QC_l q
  subst qv
  have g0 : zK h9 6 = 102 := (qf 6 (by omega)).1.trans h6.1
  have g1 : zN h9 6 = 1 := (qf 6 (by omega)).2.1.trans h6.2
  refine e_i2lw dL_moveWindow_12 ?_
  refine e_last dL_moveWindow_13 g0 (by decide) (by rw [g1]; decide) ?_
  refine e_goto (tgt := 25) dL_moveWindow_14 (by decide) ?_
  refine e_iconst dL_moveWindow_25 ?_
  refine e_iret dL_moveWindow_26 rfl trivial (by decide) (by decide) ?_
  exact ⟨by rw [q0], fun m hm => eqAt_tr (qf m (by omega)) (eqAt_sm (by omega)), ⟨g0, g1⟩, Or.inl ⟨q0, zm_eq, RC_67 (fun m m6 m7 => eqAt_sm m6) qR⟩⟩
set_option maxHeartbeats 4000000 in
set_option maxRecDepth 100000 in
theorem c_L_raise {l : Launch} (hl : l.stackTraces = false) {S : S9} {h : zH} {B : Int} (hR : RC S h) (hI : II S B) (h6 : zK h 6 = 102 ∧ zN h 6 = 1) (s : Int) (hsz : zin s) (w : Int) (hwz : zin w) (p : Int) (hpp : isWn S s w → posO S s (6 * s + w) p) : zCH l ML_raise [zR (some 2), zI s, zI w, zR (some 6)] h (QL S h (if ¬ isWn S s w then 1 else 0) (if (b2 (S 15 (6 * s + S 16 s - 1) ≠ 6 * s + w)) = 0 then 0 else 1) (raiS S s (6 * s + w) p)) := by
  have hc0 := c_X8_raise hl hR hI s hsz w hwz p hpp
  obtain ⟨kk, hkk⟩ : ∃ kk : Int, kk = (if ¬ isWn S s w then 1 else 0) := ⟨_, rfl⟩
  rw [← hkk] at hc0 ⊢
  have hv01 : (b2 (S 15 (6 * s + S 16 s - 1) ≠ 6 * s + w)) = 0 ∨ (b2 (S 15 (6 * s + S 16 s - 1) ≠ 6 * s + w)) = 1 := b2_01
  refine zCH_of hl rfl (by decide) rfl rfl (Nat.le_of_ble_eq_true rfl) ?_
  refine e_aload_n dL_raise_0 rfl rfl ?_
  refine e_iconst dL_raise_1 ?_
  refine e_aload_n dL_raise_2 rfl rfl ?_
  refine e_iload_n dL_raise_3 rfl rfl ?_
  refine e_iload_n dL_raise_4 rfl rfl ?_
  refine e_callV (As := [zI _, zI _]) (cb := 9) dL_raise_5 moX8_raise mvX8_raise mlL_31 (by decide) rfl (show zK h 2 = 9 + 1 from hR.1.1.1) rfl (Nat.le_of_ble_eq_true rfl) ⟨by decide, by decide, by decide, by decide⟩ hc0 (fun E h9 q => by
      obtain ⟨qf, q0, qx, qR⟩ := QC_r q
      obtain ⟨e1, e2⟩ := xs1 qx
      subst e2
      have hk1 : kk = 1 := by omega
      refine AX_catch (from_ := 0) (to_ := 17) (hp := 20) (ct := 19) (j := 4) [] [] rfl ⟨by decide, by decide⟩ (by decide) exI_x clLh_19 (by decide +kernel) (List.forall_mem_nil _) (by decide) rfl rfl (Or.inr ⟨dL_raise_20, ?_⟩)
      refine e_iconst dL_raise_22 ?_
      refine e_iret dL_raise_23 rfl trivial (by decide) (by decide) ?_
      exact ⟨by rw [hk1], fun m hm => qf m (by omega), ⟨(qf 6 (by omega)).1.trans h6.1, (qf 6 (by omega)).2.1.trans h6.2⟩, Or.inr ⟨by omega, qR⟩⟩) (fun v h9 q => ?_)
  obtain ⟨qf, q0, qv, qR⟩ := QC_l q
  subst qv
  have g0 : zK h9 6 = 102 := (qf 6 (by omega)).1.trans h6.1
  have g1 : zN h9 6 = 1 := (qf 6 (by omega)).2.1.trans h6.2
  refine e_if_eq (tgt := 15) dL_raise_8 (by decide) (by omega) (fun c0 => ?_) (fun c0 => ?_)
  · skip
    refine e_lconst (z := 0) dL_raise_15 (by decide) ?_
    refine e_last dL_raise_16 g0 (by decide) (by rw [g1]; decide) ?_
    refine e_goto (tgt := 24) dL_raise_17 (by decide) ?_
    refine e_iconst dL_raise_24 ?_
    refine e_iret dL_raise_25 rfl trivial (by decide) (by decide) ?_
    exact ⟨by rw [q0], fun m hm => eqAt_tr (qf m (by omega)) (eqAt_sm (by omega)), ⟨g0, g1⟩, Or.inl ⟨q0, by rw [if_pos c0]; exact zm_eq, RC_67 (fun m m6 m7 => eqAt_sm m6) qR⟩⟩
  · skip
    refine e_lconst (z := 1) dL_raise_11 (by decide) ?_
    refine e_goto (tgt := 16) dL_raise_12 (by decide) ?_
    refine e_last dL_raise_16 g0 (by decide) (by rw [g1]; decide) ?_
    refine e_goto (tgt := 24) dL_raise_17 (by decide) ?_
    refine e_iconst dL_raise_24 ?_
    refine e_iret dL_raise_25 rfl trivial (by decide) (by decide) ?_
    exact ⟨by rw [q0], fun m hm => eqAt_tr (qf m (by omega)) (eqAt_sm (by omega)), ⟨g0, g1⟩, Or.inl ⟨q0, by rw [if_neg c0]; exact zm_eq, RC_67 (fun m m6 m7 => eqAt_sm m6) qR⟩⟩
set_option maxHeartbeats 4000000 in
set_option maxRecDepth 100000 in
theorem c_L_show {l : Launch} (hl : l.stackTraces = false) {S : S9} {h : zH} {B : Int} (hR : RC S h) (hI : II S B) (h6 : zK h 6 = 102 ∧ zN h 6 = 1) (s : Int) (hsz : zin s) (w : Int) (hwz : zin w) (v : Int) (hv : v = 0 ∨ v = 1) : zCH l ML_show [zR (some 2), zI s, zI w, zI v, zR (some 6)] h (QL S h (if ¬ isWn S s w then 1 else 0) (if (S 11 (6 * s + w)) = 0 then 0 else 1) (up S 11 (6 * s + w) v)) := by
  have hc0 := c_X8_show hl hR hI s hsz w hwz v hv
  obtain ⟨kk, hkk⟩ : ∃ kk : Int, kk = (if ¬ isWn S s w then 1 else 0) := ⟨_, rfl⟩
  rw [← hkk] at hc0 ⊢
  have hv01 : (S 11 (6 * s + w)) = 0 ∨ (S 11 (6 * s + w)) = 1 := (hI.2.2.2.2 11 (by decide) _)
  refine zCH_of hl rfl (by decide) rfl rfl (Nat.le_of_ble_eq_true rfl) ?_
  refine e_aload dL_show_0 rfl ?_
  refine e_iconst dL_show_2 ?_
  refine e_aload_n dL_show_3 rfl rfl ?_
  refine e_iload_n dL_show_4 rfl rfl ?_
  refine e_iload_n dL_show_5 rfl rfl ?_
  refine e_iload_n dL_show_6 rfl rfl ?_
  refine e_callV (As := [zI _, zI _, zI _]) (cb := 9) dL_show_7 moX8_show mvX8_show mlL_34 (by decide) rfl (show zK h 2 = 9 + 1 from hR.1.1.1) rfl (Nat.le_of_ble_eq_true rfl) ⟨by decide, by decide, by decide, by decide⟩ hc0 (fun E h9 q => by
      obtain ⟨qf, q0, qx, qR⟩ := QC_r q
      obtain ⟨e1, e2⟩ := xs1 qx
      subst e2
      have hk1 : kk = 1 := by omega
      refine AX_catch (from_ := 0) (to_ := 19) (hp := 22) (ct := 19) (j := 5) [] [] rfl ⟨by decide, by decide⟩ (by decide) exI_x clLh_19 (by decide +kernel) (List.forall_mem_nil _) (by decide) rfl rfl (Or.inr ⟨dL_show_22, ?_⟩)
      refine e_iconst dL_show_24 ?_
      refine e_iret dL_show_25 rfl trivial (by decide) (by decide) ?_
      exact ⟨by rw [hk1], fun m hm => qf m (by omega), ⟨(qf 6 (by omega)).1.trans h6.1, (qf 6 (by omega)).2.1.trans h6.2⟩, Or.inr ⟨by omega, qR⟩⟩) (fun v h9 q => ?_)
  obtain ⟨qf, q0, qv, qR⟩ := QC_l q
  subst qv
  have g0 : zK h9 6 = 102 := (qf 6 (by omega)).1.trans h6.1
  have g1 : zN h9 6 = 1 := (qf 6 (by omega)).2.1.trans h6.2
  refine e_if_eq (tgt := 17) dL_show_10 (by decide) (by omega) (fun c0 => ?_) (fun c0 => ?_)
  · skip
    refine e_lconst (z := 0) dL_show_17 (by decide) ?_
    refine e_last dL_show_18 g0 (by decide) (by rw [g1]; decide) ?_
    refine e_goto (tgt := 26) dL_show_19 (by decide) ?_
    refine e_iconst dL_show_26 ?_
    refine e_iret dL_show_27 rfl trivial (by decide) (by decide) ?_
    exact ⟨by rw [q0], fun m hm => eqAt_tr (qf m (by omega)) (eqAt_sm (by omega)), ⟨g0, g1⟩, Or.inl ⟨q0, by rw [if_pos c0]; exact zm_eq, RC_67 (fun m m6 m7 => eqAt_sm m6) qR⟩⟩
  · skip
    refine e_lconst (z := 1) dL_show_13 (by decide) ?_
    refine e_goto (tgt := 18) dL_show_14 (by decide) ?_
    refine e_last dL_show_18 g0 (by decide) (by rw [g1]; decide) ?_
    refine e_goto (tgt := 26) dL_show_19 (by decide) ?_
    refine e_iconst dL_show_26 ?_
    refine e_iret dL_show_27 rfl trivial (by decide) (by decide) ?_
    exact ⟨by rw [q0], fun m hm => eqAt_tr (qf m (by omega)) (eqAt_sm (by omega)), ⟨g0, g1⟩, Or.inl ⟨q0, by rw [if_neg c0]; exact zm_eq, RC_67 (fun m m6 m7 => eqAt_sm m6) qR⟩⟩
set_option maxHeartbeats 4000000 in
set_option maxRecDepth 100000 in
theorem c_L_mark {l : Launch} (hl : l.stackTraces = false) {S : S9} {h : zH} {B : Int} (hR : RC S h) (hI : II S B) (h6 : zK h 6 = 102 ∧ zN h 6 = 1) (s : Int) (hsz : zin s) (w : Int) (hwz : zin w) (v u : Int) (hv : v = 0 ∨ v = 1) (hu : u = 0 ∨ u = 1) : zCH l ML_mark [zR (some 2), zI s, zI w, zI v, zI u, zR (some 6)] h (QL S h (if ¬ isWn S s w then 1 else 0) (if (b2 (S 12 (6 * s + w) ≠ v ∨ S 13 (6 * s + w) ≠ u)) = 0 then 0 else 1) (up (up S 12 (6 * s + w) v) 13 (6 * s + w) u)) := by
  have hc0 := c_X8_mark hl hR hI s hsz w hwz v u hv hu
  obtain ⟨kk, hkk⟩ : ∃ kk : Int, kk = (if ¬ isWn S s w then 1 else 0) := ⟨_, rfl⟩
  rw [← hkk] at hc0 ⊢
  have hv01 : (b2 (S 12 (6 * s + w) ≠ v ∨ S 13 (6 * s + w) ≠ u)) = 0 ∨ (b2 (S 12 (6 * s + w) ≠ v ∨ S 13 (6 * s + w) ≠ u)) = 1 := b2_01
  refine zCH_of hl rfl (by decide) rfl rfl (Nat.le_of_ble_eq_true rfl) ?_
  refine e_aload dL_mark_0 rfl ?_
  refine e_iconst dL_mark_2 ?_
  refine e_aload_n dL_mark_3 rfl rfl ?_
  refine e_iload_n dL_mark_4 rfl rfl ?_
  refine e_iload_n dL_mark_5 rfl rfl ?_
  refine e_iload_n dL_mark_6 rfl rfl ?_
  refine e_iload dL_mark_7 rfl ?_
  refine e_callV (As := [zI _, zI _, zI _, zI _]) (cb := 9) dL_mark_9 moX8_mark mvX8_mark mlL_38 (by decide) rfl (show zK h 2 = 9 + 1 from hR.1.1.1) rfl (Nat.le_of_ble_eq_true rfl) ⟨by decide, by decide, by decide, by decide⟩ hc0 (fun E h9 q => by
      obtain ⟨qf, q0, qx, qR⟩ := QC_r q
      obtain ⟨e1, e2⟩ := xs1 qx
      subst e2
      have hk1 : kk = 1 := by omega
      refine AX_catch (from_ := 0) (to_ := 21) (hp := 24) (ct := 19) (j := 6) [] [] rfl ⟨by decide, by decide⟩ (by decide) exI_x clLh_19 (by decide +kernel) (List.forall_mem_nil _) (by decide) rfl rfl (Or.inr ⟨dL_mark_24, ?_⟩)
      refine e_iconst dL_mark_26 ?_
      refine e_iret dL_mark_27 rfl trivial (by decide) (by decide) ?_
      exact ⟨by rw [hk1], fun m hm => qf m (by omega), ⟨(qf 6 (by omega)).1.trans h6.1, (qf 6 (by omega)).2.1.trans h6.2⟩, Or.inr ⟨by omega, qR⟩⟩) (fun v h9 q => ?_)
  obtain ⟨qf, q0, qv, qR⟩ := QC_l q
  subst qv
  have g0 : zK h9 6 = 102 := (qf 6 (by omega)).1.trans h6.1
  have g1 : zN h9 6 = 1 := (qf 6 (by omega)).2.1.trans h6.2
  refine e_if_eq (tgt := 19) dL_mark_12 (by decide) (by omega) (fun c0 => ?_) (fun c0 => ?_)
  · skip
    refine e_lconst (z := 0) dL_mark_19 (by decide) ?_
    refine e_last dL_mark_20 g0 (by decide) (by rw [g1]; decide) ?_
    refine e_goto (tgt := 28) dL_mark_21 (by decide) ?_
    refine e_iconst dL_mark_28 ?_
    refine e_iret dL_mark_29 rfl trivial (by decide) (by decide) ?_
    exact ⟨by rw [q0], fun m hm => eqAt_tr (qf m (by omega)) (eqAt_sm (by omega)), ⟨g0, g1⟩, Or.inl ⟨q0, by rw [if_pos c0]; exact zm_eq, RC_67 (fun m m6 m7 => eqAt_sm m6) qR⟩⟩
  · skip
    refine e_lconst (z := 1) dL_mark_15 (by decide) ?_
    refine e_goto (tgt := 20) dL_mark_16 (by decide) ?_
    refine e_last dL_mark_20 g0 (by decide) (by rw [g1]; decide) ?_
    refine e_goto (tgt := 28) dL_mark_21 (by decide) ?_
    refine e_iconst dL_mark_28 ?_
    refine e_iret dL_mark_29 rfl trivial (by decide) (by decide) ?_
    exact ⟨by rw [q0], fun m hm => eqAt_tr (qf m (by omega)) (eqAt_sm (by omega)), ⟨g0, g1⟩, Or.inl ⟨q0, by rw [if_neg c0]; exact zm_eq, RC_67 (fun m m6 m7 => eqAt_sm m6) qR⟩⟩
set_option maxHeartbeats 4000000 in
set_option maxRecDepth 100000 in
theorem c_L_draw {l : Launch} (hl : l.stackTraces = false) {S : S9} {h : zH} {B : Int} (hR : RC S h) (hI : II S B) (h6 : zK h 6 = 102 ∧ zN h 6 = 1) (s : Int) (hsz : zin s) (w : Int) (hwz : zin w) (x : Int) (hxz : zin x) (y : Int) (hyz : zin y) (a : Int) (haz : zin a) (b : Int) (hbz : zin b) (c : Int) (hcz : zin c) : zCH l ML_draw [zR (some 2), zI s, zI w, zI x, zI y, zI a, zI b, zI c, zR (some 6)] h (QL S h (if ¬ isWn S s w then 1 else if ¬ (isXY x y ∧ (1 ≤ a ∧ a ≤ 12) ∧ (1 ≤ b ∧ b ≤ 8) ∧ (0 ≤ c ∧ c ≤ 255)) then 2 else 0) ((Int32.ofInt (drawN S (6 * s + w) x y a b c)).toInt) (drawS S (6 * s + w) x y a b c)) := by
  have hc0 := c_X8_draw hl hR hI s hsz w hwz x hxz y hyz a haz b hbz c hcz
  obtain ⟨kk, hkk⟩ : ∃ kk : Int, kk = (if ¬ isWn S s w then 1 else if ¬ (isXY x y ∧ (1 ≤ a ∧ a ≤ 12) ∧ (1 ≤ b ∧ b ≤ 8) ∧ (0 ≤ c ∧ c ≤ 255)) then 2 else 0) := ⟨_, rfl⟩
  rw [← hkk] at hc0 ⊢
  refine zCH_of hl rfl (by decide) rfl rfl (Nat.le_of_ble_eq_true rfl) ?_
  refine e_aload dL_draw_0 rfl ?_
  refine e_iconst dL_draw_2 ?_
  refine e_aload_n dL_draw_3 rfl rfl ?_
  refine e_iload_n dL_draw_4 rfl rfl ?_
  refine e_iload_n dL_draw_5 rfl rfl ?_
  refine e_iload_n dL_draw_6 rfl rfl ?_
  refine e_iload dL_draw_7 rfl ?_
  refine e_iload dL_draw_9 rfl ?_
  refine e_iload dL_draw_11 rfl ?_
  refine e_iload dL_draw_13 rfl ?_
  refine e_callV (As := [zI _, zI _, zI _, zI _, zI _, zI _, zI _]) (cb := 9) dL_draw_15 moX8_draw mvX8_draw mlL_42 (by decide) rfl (show zK h 2 = 9 + 1 from hR.1.1.1) rfl (Nat.le_of_ble_eq_true rfl) ⟨by decide, by decide, by decide, by decide⟩ hc0 (fun E h9 q => by
      obtain ⟨qf, q0, qx, qR⟩ := QC_r q
      rcases xs2 qx with ⟨e1, e2⟩ | ⟨e1, e2⟩
      · subst e2
        have hk1 : kk = 1 := by omega
        refine AX_catch (from_ := 0) (to_ := 20) (hp := 23) (ct := 19) (j := 9) [] [(0, 20, 27, 21)] rfl ⟨by decide, by decide⟩ (by decide) exI_x clLh_19 (by decide +kernel) (List.forall_mem_nil _) (by decide) rfl rfl (Or.inr ⟨dL_draw_23, ?_⟩)
        refine e_iconst dL_draw_25 ?_
        refine e_iret dL_draw_26 rfl trivial (by decide) (by decide) ?_
        exact ⟨by rw [hk1], fun m hm => qf m (by omega), ⟨(qf 6 (by omega)).1.trans h6.1, (qf 6 (by omega)).2.1.trans h6.2⟩, Or.inr ⟨by omega, qR⟩⟩
      · subst e2
        have hk1 : kk = 2 := by omega
        refine AX_catch (from_ := 0) (to_ := 20) (hp := 27) (ct := 21) (j := 9) [(0, 20, 23, 19)] [] rfl ⟨by decide, by decide⟩ (by decide) exA_x clLh_21 (by decide +kernel) (List.forall_mem_cons.mpr ⟨⟨by decide, exI, exI_x, by decide +kernel, clLh_19⟩, (List.forall_mem_nil _)⟩) (by decide) rfl rfl (Or.inr ⟨dL_draw_27, ?_⟩)
        refine e_iconst dL_draw_29 ?_
        refine e_iret dL_draw_30 rfl trivial (by decide) (by decide) ?_
        exact ⟨by rw [hk1], fun m hm => qf m (by omega), ⟨(qf 6 (by omega)).1.trans h6.1, (qf 6 (by omega)).2.1.trans h6.2⟩, Or.inr ⟨by omega, qR⟩⟩) (fun v h9 q => ?_)
  obtain ⟨qf, q0, qv, qR⟩ := QC_l q
  subst qv
  have g0 : zK h9 6 = 102 := (qf 6 (by omega)).1.trans h6.1
  have g1 : zN h9 6 = 1 := (qf 6 (by omega)).2.1.trans h6.2
  refine e_i2lw dL_draw_18 ?_
  refine e_last dL_draw_19 g0 (by decide) (by rw [g1]; decide) ?_
  refine e_goto (tgt := 31) dL_draw_20 (by decide) ?_
  refine e_iconst dL_draw_31 ?_
  refine e_iret dL_draw_32 rfl trivial (by decide) (by decide) ?_
  exact ⟨by rw [q0], fun m hm => eqAt_tr (qf m (by omega)) (eqAt_sm (by omega)), ⟨g0, g1⟩, Or.inl ⟨q0, zm_eq, RC_67 (fun m m6 m7 => eqAt_sm m6) qR⟩⟩
set_option maxHeartbeats 4000000 in
set_option maxRecDepth 100000 in
theorem c_L_screen {l : Launch} (hl : l.stackTraces = false) {S : S9} {h : zH} {B : Int} (hR : RC S h) (hI : II S B) (h6 : zK h 6 = 102 ∧ zN h 6 = 1) (s : Int) (hsz : zin s) (x : Int) (hxz : zin x) (y : Int) (hyz : zin y) : zCH l ML_screen [zR (some 2), zI s, zI x, zI y, zR (some 6)] h (QL S h (if ¬ (isS S s ∧ isXY x y) then 1 else 0) ((Int32.ofInt (screenAt S s (y * 12 + x))).toInt) S) := by
  have hc0 := c_X8_screen hl hR hI s hsz x hxz y hyz
  obtain ⟨kk, hkk⟩ : ∃ kk : Int, kk = (if ¬ (isS S s ∧ isXY x y) then 1 else 0) := ⟨_, rfl⟩
  rw [← hkk] at hc0 ⊢
  refine zCH_of hl rfl (by decide) rfl rfl (Nat.le_of_ble_eq_true rfl) ?_
  refine e_aload dL_screen_0 rfl ?_
  refine e_iconst dL_screen_2 ?_
  refine e_aload_n dL_screen_3 rfl rfl ?_
  refine e_iload_n dL_screen_4 rfl rfl ?_
  refine e_iload_n dL_screen_5 rfl rfl ?_
  refine e_iload_n dL_screen_6 rfl rfl ?_
  refine e_callV (As := [zI _, zI _, zI _]) (cb := 9) dL_screen_7 moX8_screen mvX8_screen mlL_46 (by decide) rfl (show zK h 2 = 9 + 1 from hR.1.1.1) rfl (Nat.le_of_ble_eq_true rfl) ⟨by decide, by decide, by decide, by decide⟩ hc0 (fun E h9 q => by
      obtain ⟨qf, q0, qx, qR⟩ := QC_r q
      obtain ⟨e1, e2⟩ := xs1 qx
      subst e2
      have hk1 : kk = 1 := by omega
      refine AX_catch (from_ := 0) (to_ := 12) (hp := 15) (ct := 19) (j := 5) [] [] rfl ⟨by decide, by decide⟩ (by decide) exI_x clLh_19 (by decide +kernel) (List.forall_mem_nil _) (by decide) rfl rfl (Or.inr ⟨dL_screen_15, ?_⟩)
      refine e_iconst dL_screen_17 ?_
      refine e_iret dL_screen_18 rfl trivial (by decide) (by decide) ?_
      exact ⟨by rw [hk1], fun m hm => qf m (by omega), ⟨(qf 6 (by omega)).1.trans h6.1, (qf 6 (by omega)).2.1.trans h6.2⟩, Or.inr ⟨by omega, qR⟩⟩) (fun v h9 q => ?_)
  obtain ⟨qf, q0, qv, qR⟩ := QC_l q
  subst qv
  have g0 : zK h9 6 = 102 := (qf 6 (by omega)).1.trans h6.1
  have g1 : zN h9 6 = 1 := (qf 6 (by omega)).2.1.trans h6.2
  refine e_i2lw dL_screen_10 ?_
  refine e_last dL_screen_11 g0 (by decide) (by rw [g1]; decide) ?_
  refine e_goto (tgt := 19) dL_screen_12 (by decide) ?_
  refine e_iconst dL_screen_19 ?_
  refine e_iret dL_screen_20 rfl trivial (by decide) (by decide) ?_
  exact ⟨by rw [q0], fun m hm => eqAt_tr (qf m (by omega)) (eqAt_sm (by omega)), ⟨g0, g1⟩, Or.inl ⟨q0, zm_eq, RC_67 (fun m m6 m7 => eqAt_sm m6) qR⟩⟩
set_option maxHeartbeats 4000000 in
set_option maxRecDepth 100000 in
theorem c_L_join {l : Launch} (hl : l.stackTraces = false) {S : S9} {h : zH} {B : Int} (hR : RC S h) (hI : II S B) (h6 : zK h 6 = 102 ∧ zN h 6 = 1) (s : Int) (hsz : zin s) (b : Int) (hbz : zin b) : zCH l ML_join [zR (some 2), zI s, zI b, zR (some 6)] h (QL S h (if ¬ isS S s then 1 else if ¬ (0 ≤ b ∧ b ≤ 9) then 2 else if S 2 0 = 6 then 3 else 0) ((Int32.ofInt (S 2 0)).toInt) (joinS S s b)) := by
  have hc0 := c_X8_join hl hR hI s hsz b hbz
  obtain ⟨kk, hkk⟩ : ∃ kk : Int, kk = (if ¬ isS S s then 1 else if ¬ (0 ≤ b ∧ b ≤ 9) then 2 else if S 2 0 = 6 then 3 else 0) := ⟨_, rfl⟩
  rw [← hkk] at hc0 ⊢
  refine zCH_of hl rfl (by decide) rfl rfl (Nat.le_of_ble_eq_true rfl) ?_
  refine e_aload_n dL_join_0 rfl rfl ?_
  refine e_iconst dL_join_1 ?_
  refine e_aload_n dL_join_2 rfl rfl ?_
  refine e_iload_n dL_join_3 rfl rfl ?_
  refine e_iload_n dL_join_4 rfl rfl ?_
  refine e_callV (As := [zI _, zI _]) (cb := 9) dL_join_5 moX8_join mvX8_join mlL_50 (by decide) rfl (show zK h 2 = 9 + 1 from hR.1.1.1) rfl (Nat.le_of_ble_eq_true rfl) ⟨by decide, by decide, by decide, by decide⟩ hc0 (fun E h9 q => by
      obtain ⟨qf, q0, qx, qR⟩ := QC_r q
      rcases xs3 qx with ⟨e1, e2⟩ | ⟨e1, e2⟩ | ⟨e1, e2⟩
      · subst e2
        have hk1 : kk = 1 := by omega
        refine AX_catch (from_ := 0) (to_ := 10) (hp := 13) (ct := 19) (j := 4) [] [(0, 10, 17, 21), (0, 10, 21, 13)] rfl ⟨by decide, by decide⟩ (by decide) exI_x clLh_19 (by decide +kernel) (List.forall_mem_nil _) (by decide) rfl rfl (Or.inr ⟨dL_join_13, ?_⟩)
        refine e_iconst dL_join_15 ?_
        refine e_iret dL_join_16 rfl trivial (by decide) (by decide) ?_
        exact ⟨by rw [hk1], fun m hm => qf m (by omega), ⟨(qf 6 (by omega)).1.trans h6.1, (qf 6 (by omega)).2.1.trans h6.2⟩, Or.inr ⟨by omega, qR⟩⟩
      · subst e2
        have hk1 : kk = 2 := by omega
        refine AX_catch (from_ := 0) (to_ := 10) (hp := 17) (ct := 21) (j := 4) [(0, 10, 13, 19)] [(0, 10, 21, 13)] rfl ⟨by decide, by decide⟩ (by decide) exA_x clLh_21 (by decide +kernel) (List.forall_mem_cons.mpr ⟨⟨by decide, exI, exI_x, by decide +kernel, clLh_19⟩, (List.forall_mem_nil _)⟩) (by decide) rfl rfl (Or.inr ⟨dL_join_17, ?_⟩)
        refine e_iconst dL_join_19 ?_
        refine e_iret dL_join_20 rfl trivial (by decide) (by decide) ?_
        exact ⟨by rw [hk1], fun m hm => qf m (by omega), ⟨(qf 6 (by omega)).1.trans h6.1, (qf 6 (by omega)).2.1.trans h6.2⟩, Or.inr ⟨by omega, qR⟩⟩
      · subst e2
        have hk1 : kk = 3 := by omega
        refine AX_catch (from_ := 0) (to_ := 10) (hp := 21) (ct := 13) (j := 4) [(0, 10, 13, 19), (0, 10, 17, 21)] [] rfl ⟨by decide, by decide⟩ (by decide) exS_x clLh_13 (by decide +kernel) (List.forall_mem_cons.mpr ⟨⟨by decide, exI, exI_x, by decide +kernel, clLh_19⟩, (List.forall_mem_cons.mpr ⟨⟨by decide, exA, exA_x, by decide +kernel, clLh_21⟩, (List.forall_mem_nil _)⟩)⟩) (by decide) rfl rfl (Or.inr ⟨dL_join_21, ?_⟩)
        refine e_iconst dL_join_23 ?_
        refine e_iret dL_join_24 rfl trivial (by decide) (by decide) ?_
        exact ⟨by rw [hk1], fun m hm => qf m (by omega), ⟨(qf 6 (by omega)).1.trans h6.1, (qf 6 (by omega)).2.1.trans h6.2⟩, Or.inr ⟨by omega, qR⟩⟩) (fun v h9 q => ?_)
  obtain ⟨qf, q0, qv, qR⟩ := QC_l q
  subst qv
  have g0 : zK h9 6 = 102 := (qf 6 (by omega)).1.trans h6.1
  have g1 : zN h9 6 = 1 := (qf 6 (by omega)).2.1.trans h6.2
  refine e_i2lw dL_join_8 ?_
  refine e_last dL_join_9 g0 (by decide) (by rw [g1]; decide) ?_
  refine e_goto (tgt := 25) dL_join_10 (by decide) ?_
  refine e_iconst dL_join_25 ?_
  refine e_iret dL_join_26 rfl trivial (by decide) (by decide) ?_
  exact ⟨by rw [q0], fun m hm => eqAt_tr (qf m (by omega)) (eqAt_sm (by omega)), ⟨g0, g1⟩, Or.inl ⟨q0, zm_eq, RC_67 (fun m m6 m7 => eqAt_sm m6) qR⟩⟩
set_option maxHeartbeats 4000000 in
set_option maxRecDepth 100000 in
theorem c_L_bid {l : Launch} (hl : l.stackTraces = false) {S : S9} {h : zH} {B : Int} (hR : RC S h) (hI : II S B) (h6 : zK h 6 = 102 ∧ zN h 6 = 1) (c : Int) (hcz : zin c) (b : Int) (hbz : zin b) : zCH l ML_bid [zR (some 2), zI c, zI b, zR (some 6)] h (QL S h (if ¬ isC S c then 1 else if ¬ (0 ≤ b ∧ b ≤ 9) then 2 else 0) ((Int32.ofInt (S 36 c)).toInt) (up S 36 c b)) := by
  have hc0 := c_X8_bid hl hR hI c hcz b hbz
  obtain ⟨kk, hkk⟩ : ∃ kk : Int, kk = (if ¬ isC S c then 1 else if ¬ (0 ≤ b ∧ b ≤ 9) then 2 else 0) := ⟨_, rfl⟩
  rw [← hkk] at hc0 ⊢
  refine zCH_of hl rfl (by decide) rfl rfl (Nat.le_of_ble_eq_true rfl) ?_
  refine e_aload_n dL_bid_0 rfl rfl ?_
  refine e_iconst dL_bid_1 ?_
  refine e_aload_n dL_bid_2 rfl rfl ?_
  refine e_iload_n dL_bid_3 rfl rfl ?_
  refine e_iload_n dL_bid_4 rfl rfl ?_
  refine e_callV (As := [zI _, zI _]) (cb := 9) dL_bid_5 moX8_bid mvX8_bid mlL_54 (by decide) rfl (show zK h 2 = 9 + 1 from hR.1.1.1) rfl (Nat.le_of_ble_eq_true rfl) ⟨by decide, by decide, by decide, by decide⟩ hc0 (fun E h9 q => by
      obtain ⟨qf, q0, qx, qR⟩ := QC_r q
      rcases xs2 qx with ⟨e1, e2⟩ | ⟨e1, e2⟩
      · subst e2
        have hk1 : kk = 1 := by omega
        refine AX_catch (from_ := 0) (to_ := 10) (hp := 13) (ct := 19) (j := 4) [] [(0, 10, 17, 21)] rfl ⟨by decide, by decide⟩ (by decide) exI_x clLh_19 (by decide +kernel) (List.forall_mem_nil _) (by decide) rfl rfl (Or.inr ⟨dL_bid_13, ?_⟩)
        refine e_iconst dL_bid_15 ?_
        refine e_iret dL_bid_16 rfl trivial (by decide) (by decide) ?_
        exact ⟨by rw [hk1], fun m hm => qf m (by omega), ⟨(qf 6 (by omega)).1.trans h6.1, (qf 6 (by omega)).2.1.trans h6.2⟩, Or.inr ⟨by omega, qR⟩⟩
      · subst e2
        have hk1 : kk = 2 := by omega
        refine AX_catch (from_ := 0) (to_ := 10) (hp := 17) (ct := 21) (j := 4) [(0, 10, 13, 19)] [] rfl ⟨by decide, by decide⟩ (by decide) exA_x clLh_21 (by decide +kernel) (List.forall_mem_cons.mpr ⟨⟨by decide, exI, exI_x, by decide +kernel, clLh_19⟩, (List.forall_mem_nil _)⟩) (by decide) rfl rfl (Or.inr ⟨dL_bid_17, ?_⟩)
        refine e_iconst dL_bid_19 ?_
        refine e_iret dL_bid_20 rfl trivial (by decide) (by decide) ?_
        exact ⟨by rw [hk1], fun m hm => qf m (by omega), ⟨(qf 6 (by omega)).1.trans h6.1, (qf 6 (by omega)).2.1.trans h6.2⟩, Or.inr ⟨by omega, qR⟩⟩) (fun v h9 q => ?_)
  obtain ⟨qf, q0, qv, qR⟩ := QC_l q
  subst qv
  have g0 : zK h9 6 = 102 := (qf 6 (by omega)).1.trans h6.1
  have g1 : zN h9 6 = 1 := (qf 6 (by omega)).2.1.trans h6.2
  refine e_i2lw dL_bid_8 ?_
  refine e_last dL_bid_9 g0 (by decide) (by rw [g1]; decide) ?_
  refine e_goto (tgt := 21) dL_bid_10 (by decide) ?_
  refine e_iconst dL_bid_21 ?_
  refine e_iret dL_bid_22 rfl trivial (by decide) (by decide) ?_
  exact ⟨by rw [q0], fun m hm => eqAt_tr (qf m (by omega)) (eqAt_sm (by omega)), ⟨g0, g1⟩, Or.inl ⟨q0, zm_eq, RC_67 (fun m m6 m7 => eqAt_sm m6) qR⟩⟩
set_option maxHeartbeats 4000000 in
set_option maxRecDepth 100000 in
theorem c_L_money {l : Launch} (hl : l.stackTraces = false) {S : S9} {h : zH} {B : Int} (hR : RC S h) (hI : II S B) (h6 : zK h 6 = 102 ∧ zN h 6 = 1) (c : Int) (hcz : zin c) : zCH l ML_money [zR (some 2), zI c, zR (some 6)] h (QL S h (if ¬ isC S c then 1 else 0) ((Int32.ofInt (S 37 c)).toInt) S) := by
  have hc0 := c_X8_money hl hR hI c hcz
  obtain ⟨kk, hkk⟩ : ∃ kk : Int, kk = (if ¬ isC S c then 1 else 0) := ⟨_, rfl⟩
  rw [← hkk] at hc0 ⊢
  refine zCH_of hl rfl (by decide) rfl rfl (Nat.le_of_ble_eq_true rfl) ?_
  refine e_aload_n dL_money_0 rfl rfl ?_
  refine e_iconst dL_money_1 ?_
  refine e_aload_n dL_money_2 rfl rfl ?_
  refine e_iload_n dL_money_3 rfl rfl ?_
  refine e_callV (As := [zI _]) (cb := 9) dL_money_4 moX8_money mvX8_money mlL_57 (by decide) rfl (show zK h 2 = 9 + 1 from hR.1.1.1) rfl (Nat.le_of_ble_eq_true rfl) ⟨by decide, by decide, by decide, by decide⟩ hc0 (fun E h9 q => by
      obtain ⟨qf, q0, qx, qR⟩ := QC_r q
      obtain ⟨e1, e2⟩ := xs1 qx
      subst e2
      have hk1 : kk = 1 := by omega
      refine AX_catch (from_ := 0) (to_ := 9) (hp := 12) (ct := 19) (j := 3) [] [] rfl ⟨by decide, by decide⟩ (by decide) exI_x clLh_19 (by decide +kernel) (List.forall_mem_nil _) (by decide) rfl rfl (Or.inl ⟨3, rfl, dL_money_12, ?_⟩)
      refine e_iconst dL_money_13 ?_
      refine e_iret dL_money_14 rfl trivial (by decide) (by decide) ?_
      exact ⟨by rw [hk1], fun m hm => qf m (by omega), ⟨(qf 6 (by omega)).1.trans h6.1, (qf 6 (by omega)).2.1.trans h6.2⟩, Or.inr ⟨by omega, qR⟩⟩) (fun v h9 q => ?_)
  obtain ⟨qf, q0, qv, qR⟩ := QC_l q
  subst qv
  have g0 : zK h9 6 = 102 := (qf 6 (by omega)).1.trans h6.1
  have g1 : zN h9 6 = 1 := (qf 6 (by omega)).2.1.trans h6.2
  refine e_i2lw dL_money_7 ?_
  refine e_last dL_money_8 g0 (by decide) (by rw [g1]; decide) ?_
  refine e_goto (tgt := 15) dL_money_9 (by decide) ?_
  refine e_iconst dL_money_15 ?_
  refine e_iret dL_money_16 rfl trivial (by decide) (by decide) ?_
  exact ⟨by rw [q0], fun m hm => eqAt_tr (qf m (by omega)) (eqAt_sm (by omega)), ⟨g0, g1⟩, Or.inl ⟨q0, zm_eq, RC_67 (fun m m6 m7 => eqAt_sm m6) qR⟩⟩
set_option maxHeartbeats 4000000 in
set_option maxRecDepth 100000 in
theorem c_L_picture {l : Launch} (hl : l.stackTraces = false) {S : S9} {h : zH} {B : Int} (hR : RC S h) (hI : II S B) (h6 : zK h 6 = 102 ∧ zN h 6 = 1) (c : Int) (hcz : zin c) (x : Int) (hxz : zin x) (y : Int) (hyz : zin y) : zCH l ML_picture [zR (some 2), zI c, zI x, zI y, zR (some 6)] h (QL S h (if ¬ (isC S c ∧ isXY x y) then 1 else 0) ((Int32.ofInt (S 40 (96 * c + (y * 12 + x)))).toInt) S) := by
  have hc0 := c_X8_picture hl hR hI c hcz x hxz y hyz
  obtain ⟨kk, hkk⟩ : ∃ kk : Int, kk = (if ¬ (isC S c ∧ isXY x y) then 1 else 0) := ⟨_, rfl⟩
  rw [← hkk] at hc0 ⊢
  refine zCH_of hl rfl (by decide) rfl rfl (Nat.le_of_ble_eq_true rfl) ?_
  refine e_aload dL_picture_0 rfl ?_
  refine e_iconst dL_picture_2 ?_
  refine e_aload_n dL_picture_3 rfl rfl ?_
  refine e_iload_n dL_picture_4 rfl rfl ?_
  refine e_iload_n dL_picture_5 rfl rfl ?_
  refine e_iload_n dL_picture_6 rfl rfl ?_
  refine e_callV (As := [zI _, zI _, zI _]) (cb := 9) dL_picture_7 moX8_picture mvX8_picture mlL_61 (by decide) rfl (show zK h 2 = 9 + 1 from hR.1.1.1) rfl (Nat.le_of_ble_eq_true rfl) ⟨by decide, by decide, by decide, by decide⟩ hc0 (fun E h9 q => by
      obtain ⟨qf, q0, qx, qR⟩ := QC_r q
      obtain ⟨e1, e2⟩ := xs1 qx
      subst e2
      have hk1 : kk = 1 := by omega
      refine AX_catch (from_ := 0) (to_ := 12) (hp := 15) (ct := 19) (j := 5) [] [] rfl ⟨by decide, by decide⟩ (by decide) exI_x clLh_19 (by decide +kernel) (List.forall_mem_nil _) (by decide) rfl rfl (Or.inr ⟨dL_picture_15, ?_⟩)
      refine e_iconst dL_picture_17 ?_
      refine e_iret dL_picture_18 rfl trivial (by decide) (by decide) ?_
      exact ⟨by rw [hk1], fun m hm => qf m (by omega), ⟨(qf 6 (by omega)).1.trans h6.1, (qf 6 (by omega)).2.1.trans h6.2⟩, Or.inr ⟨by omega, qR⟩⟩) (fun v h9 q => ?_)
  obtain ⟨qf, q0, qv, qR⟩ := QC_l q
  subst qv
  have g0 : zK h9 6 = 102 := (qf 6 (by omega)).1.trans h6.1
  have g1 : zN h9 6 = 1 := (qf 6 (by omega)).2.1.trans h6.2
  refine e_i2lw dL_picture_10 ?_
  refine e_last dL_picture_11 g0 (by decide) (by rw [g1]; decide) ?_
  refine e_goto (tgt := 19) dL_picture_12 (by decide) ?_
  refine e_iconst dL_picture_19 ?_
  refine e_iret dL_picture_20 rfl trivial (by decide) (by decide) ?_
  exact ⟨by rw [q0], fun m hm => eqAt_tr (qf m (by omega)) (eqAt_sm (by omega)), ⟨g0, g1⟩, Or.inl ⟨q0, zm_eq, RC_67 (fun m m6 m7 => eqAt_sm m6) qR⟩⟩
set_option maxHeartbeats 4000000 in
set_option maxRecDepth 100000 in
theorem c_L_seen {l : Launch} (hl : l.stackTraces = false) {S : S9} {h : zH} {B : Int} (hR : RC S h) (hI : II S B) (h6 : zK h 6 = 102 ∧ zN h 6 = 1) (c : Int) (hcz : zin c) (x : Int) (hxz : zin x) (y : Int) (hyz : zin y) : zCH l ML_seen [zR (some 2), zI c, zI x, zI y, zR (some 6)] h (QL S h (if ¬ (isC S c ∧ isXY x y) then 1 else 0) ((Int32.ofInt (seen S c (y * 12 + x))).toInt) S) := by
  have hc0 := c_X8_seen hl hR hI c hcz x hxz y hyz
  obtain ⟨kk, hkk⟩ : ∃ kk : Int, kk = (if ¬ (isC S c ∧ isXY x y) then 1 else 0) := ⟨_, rfl⟩
  rw [← hkk] at hc0 ⊢
  refine zCH_of hl rfl (by decide) rfl rfl (Nat.le_of_ble_eq_true rfl) ?_
  refine e_aload dL_seen_0 rfl ?_
  refine e_iconst dL_seen_2 ?_
  refine e_aload_n dL_seen_3 rfl rfl ?_
  refine e_iload_n dL_seen_4 rfl rfl ?_
  refine e_iload_n dL_seen_5 rfl rfl ?_
  refine e_iload_n dL_seen_6 rfl rfl ?_
  refine e_callV (As := [zI _, zI _, zI _]) (cb := 9) dL_seen_7 moX8_seen mvX8_seen mlL_64 (by decide) rfl (show zK h 2 = 9 + 1 from hR.1.1.1) rfl (Nat.le_of_ble_eq_true rfl) ⟨by decide, by decide, by decide, by decide⟩ hc0 (fun E h9 q => by
      obtain ⟨qf, q0, qx, qR⟩ := QC_r q
      obtain ⟨e1, e2⟩ := xs1 qx
      subst e2
      have hk1 : kk = 1 := by omega
      refine AX_catch (from_ := 0) (to_ := 12) (hp := 15) (ct := 19) (j := 5) [] [] rfl ⟨by decide, by decide⟩ (by decide) exI_x clLh_19 (by decide +kernel) (List.forall_mem_nil _) (by decide) rfl rfl (Or.inr ⟨dL_seen_15, ?_⟩)
      refine e_iconst dL_seen_17 ?_
      refine e_iret dL_seen_18 rfl trivial (by decide) (by decide) ?_
      exact ⟨by rw [hk1], fun m hm => qf m (by omega), ⟨(qf 6 (by omega)).1.trans h6.1, (qf 6 (by omega)).2.1.trans h6.2⟩, Or.inr ⟨by omega, qR⟩⟩) (fun v h9 q => ?_)
  obtain ⟨qf, q0, qv, qR⟩ := QC_l q
  subst qv
  have g0 : zK h9 6 = 102 := (qf 6 (by omega)).1.trans h6.1
  have g1 : zN h9 6 = 1 := (qf 6 (by omega)).2.1.trans h6.2
  refine e_i2lw dL_seen_10 ?_
  refine e_last dL_seen_11 g0 (by decide) (by rw [g1]; decide) ?_
  refine e_goto (tgt := 19) dL_seen_12 (by decide) ?_
  refine e_iconst dL_seen_19 ?_
  refine e_iret dL_seen_20 rfl trivial (by decide) (by decide) ?_
  exact ⟨by rw [q0], fun m hm => eqAt_tr (qf m (by omega)) (eqAt_sm (by omega)), ⟨g0, g1⟩, Or.inl ⟨q0, zm_eq, RC_67 (fun m m6 m7 => eqAt_sm m6) qR⟩⟩
set_option maxHeartbeats 4000000 in
set_option maxRecDepth 100000 in
theorem c_L_behind {l : Launch} (hl : l.stackTraces = false) {S : S9} {h : zH} {B : Int} (hR : RC S h) (hI : II S B) (h6 : zK h 6 = 102 ∧ zN h 6 = 1) (c : Int) (hcz : zin c) : zCH l ML_behind [zR (some 2), zI c, zR (some 6)] h (QL S h (if ¬ isC S c then 1 else 0) ((Int32.ofInt (cntB S c)).toInt) S) := by
  have hc0 := c_X8_behind hl hR hI c hcz
  obtain ⟨kk, hkk⟩ : ∃ kk : Int, kk = (if ¬ isC S c then 1 else 0) := ⟨_, rfl⟩
  rw [← hkk] at hc0 ⊢
  refine zCH_of hl rfl (by decide) rfl rfl (Nat.le_of_ble_eq_true rfl) ?_
  refine e_aload_n dL_behind_0 rfl rfl ?_
  refine e_iconst dL_behind_1 ?_
  refine e_aload_n dL_behind_2 rfl rfl ?_
  refine e_iload_n dL_behind_3 rfl rfl ?_
  refine e_callV (As := [zI _]) (cb := 9) dL_behind_4 moX8_behind mvX8_behind mlL_67 (by decide) rfl (show zK h 2 = 9 + 1 from hR.1.1.1) rfl (Nat.le_of_ble_eq_true rfl) ⟨by decide, by decide, by decide, by decide⟩ hc0 (fun E h9 q => by
      obtain ⟨qf, q0, qx, qR⟩ := QC_r q
      obtain ⟨e1, e2⟩ := xs1 qx
      subst e2
      have hk1 : kk = 1 := by omega
      refine AX_catch (from_ := 0) (to_ := 9) (hp := 12) (ct := 19) (j := 3) [] [] rfl ⟨by decide, by decide⟩ (by decide) exI_x clLh_19 (by decide +kernel) (List.forall_mem_nil _) (by decide) rfl rfl (Or.inl ⟨3, rfl, dL_behind_12, ?_⟩)
      refine e_iconst dL_behind_13 ?_
      refine e_iret dL_behind_14 rfl trivial (by decide) (by decide) ?_
      exact ⟨by rw [hk1], fun m hm => qf m (by omega), ⟨(qf 6 (by omega)).1.trans h6.1, (qf 6 (by omega)).2.1.trans h6.2⟩, Or.inr ⟨by omega, qR⟩⟩) (fun v h9 q => ?_)
  obtain ⟨qf, q0, qv, qR⟩ := QC_l q
  subst qv
  have g0 : zK h9 6 = 102 := (qf 6 (by omega)).1.trans h6.1
  have g1 : zN h9 6 = 1 := (qf 6 (by omega)).2.1.trans h6.2
  refine e_i2lw dL_behind_7 ?_
  refine e_last dL_behind_8 g0 (by decide) (by rw [g1]; decide) ?_
  refine e_goto (tgt := 15) dL_behind_9 (by decide) ?_
  refine e_iconst dL_behind_15 ?_
  refine e_iret dL_behind_16 rfl trivial (by decide) (by decide) ?_
  exact ⟨by rw [q0], fun m hm => eqAt_tr (qf m (by omega)) (eqAt_sm (by omega)), ⟨g0, g1⟩, Or.inl ⟨q0, zm_eq, RC_67 (fun m m6 m7 => eqAt_sm m6) qR⟩⟩
set_option maxHeartbeats 4000000 in
set_option maxRecDepth 100000 in
theorem c_L_next {l : Launch} (hl : l.stackTraces = false) {S : S9} {h : zH} {B : Int} (hR : RC S h) (hI : II S B) (h6 : zK h 6 = 102 ∧ zN h 6 = 1) (c : Int) (hcz : zin c) : zCH l ML_next [zR (some 2), zI c, zR (some 6)] h (QL S h (if ¬ isC S c then 1 else if ¬ hasN S c then 2 else 0) ((Int32.ofInt (bstC S c).1).toInt) S) := by
  have hc0 := c_X8_next hl hR hI c hcz
  obtain ⟨kk, hkk⟩ : ∃ kk : Int, kk = (if ¬ isC S c then 1 else if ¬ hasN S c then 2 else 0) := ⟨_, rfl⟩
  rw [← hkk] at hc0 ⊢
  refine zCH_of hl rfl (by decide) rfl rfl (Nat.le_of_ble_eq_true rfl) ?_
  refine e_aload_n dL_next_0 rfl rfl ?_
  refine e_iconst dL_next_1 ?_
  refine e_aload_n dL_next_2 rfl rfl ?_
  refine e_iload_n dL_next_3 rfl rfl ?_
  refine e_callV (As := [zI _]) (cb := 9) dL_next_4 moX8_next mvX8_next mlL_70 (by decide) rfl (show zK h 2 = 9 + 1 from hR.1.1.1) rfl (Nat.le_of_ble_eq_true rfl) ⟨by decide, by decide, by decide, by decide⟩ hc0 (fun E h9 q => by
      obtain ⟨qf, q0, qx, qR⟩ := QC_r q
      rcases xs2 qx with ⟨e1, e2⟩ | ⟨e1, e2⟩
      · subst e2
        have hk1 : kk = 1 := by omega
        refine AX_catch (from_ := 0) (to_ := 9) (hp := 12) (ct := 19) (j := 3) [] [(0, 9, 15, 74)] rfl ⟨by decide, by decide⟩ (by decide) exI_x clLh_19 (by decide +kernel) (List.forall_mem_nil _) (by decide) rfl rfl (Or.inl ⟨3, rfl, dL_next_12, ?_⟩)
        refine e_iconst dL_next_13 ?_
        refine e_iret dL_next_14 rfl trivial (by decide) (by decide) ?_
        exact ⟨by rw [hk1], fun m hm => qf m (by omega), ⟨(qf 6 (by omega)).1.trans h6.1, (qf 6 (by omega)).2.1.trans h6.2⟩, Or.inr ⟨by omega, qR⟩⟩
      · subst e2
        have hk1 : kk = 2 := by omega
        refine AX_catch (from_ := 0) (to_ := 9) (hp := 15) (ct := 74) (j := 3) [(0, 9, 12, 19)] [] rfl ⟨by decide, by decide⟩ (by decide) exN_x clLh_74 (by decide +kernel) (List.forall_mem_cons.mpr ⟨⟨by decide, exI, exI_x, by decide +kernel, clLh_19⟩, (List.forall_mem_nil _)⟩) (by decide) rfl rfl (Or.inl ⟨3, rfl, dL_next_15, ?_⟩)
        refine e_iconst dL_next_16 ?_
        refine e_iret dL_next_17 rfl trivial (by decide) (by decide) ?_
        exact ⟨by rw [hk1], fun m hm => qf m (by omega), ⟨(qf 6 (by omega)).1.trans h6.1, (qf 6 (by omega)).2.1.trans h6.2⟩, Or.inr ⟨by omega, qR⟩⟩) (fun v h9 q => ?_)
  obtain ⟨qf, q0, qv, qR⟩ := QC_l q
  subst qv
  have g0 : zK h9 6 = 102 := (qf 6 (by omega)).1.trans h6.1
  have g1 : zN h9 6 = 1 := (qf 6 (by omega)).2.1.trans h6.2
  refine e_i2lw dL_next_7 ?_
  refine e_last dL_next_8 g0 (by decide) (by rw [g1]; decide) ?_
  refine e_goto (tgt := 18) dL_next_9 (by decide) ?_
  refine e_iconst dL_next_18 ?_
  refine e_iret dL_next_19 rfl trivial (by decide) (by decide) ?_
  exact ⟨by rw [q0], fun m hm => eqAt_tr (qf m (by omega)) (eqAt_sm (by omega)), ⟨g0, g1⟩, Or.inl ⟨q0, zm_eq, RC_67 (fun m m6 m7 => eqAt_sm m6) qR⟩⟩
set_option maxHeartbeats 4000000 in
set_option maxRecDepth 100000 in
theorem c_L_nextCost {l : Launch} (hl : l.stackTraces = false) {S : S9} {h : zH} {B : Int} (hR : RC S h) (hI : II S B) (h6 : zK h 6 = 102 ∧ zN h 6 = 1) (c : Int) (hcz : zin c) : zCH l ML_nextCost [zR (some 2), zI c, zR (some 6)] h (QL S h (if ¬ isC S c then 1 else if ¬ hasN S c then 2 else 0) ((Int32.ofInt (bstC S c).2.1).toInt) S) := by
  have hc0 := c_X8_nextCost hl hR hI c hcz
  obtain ⟨kk, hkk⟩ : ∃ kk : Int, kk = (if ¬ isC S c then 1 else if ¬ hasN S c then 2 else 0) := ⟨_, rfl⟩
  rw [← hkk] at hc0 ⊢
  refine zCH_of hl rfl (by decide) rfl rfl (Nat.le_of_ble_eq_true rfl) ?_
  refine e_aload_n dL_nextCost_0 rfl rfl ?_
  refine e_iconst dL_nextCost_1 ?_
  refine e_aload_n dL_nextCost_2 rfl rfl ?_
  refine e_iload_n dL_nextCost_3 rfl rfl ?_
  refine e_callV (As := [zI _]) (cb := 9) dL_nextCost_4 moX8_nextCost mvX8_nextCost mlL_76 (by decide) rfl (show zK h 2 = 9 + 1 from hR.1.1.1) rfl (Nat.le_of_ble_eq_true rfl) ⟨by decide, by decide, by decide, by decide⟩ hc0 (fun E h9 q => by
      obtain ⟨qf, q0, qx, qR⟩ := QC_r q
      rcases xs2 qx with ⟨e1, e2⟩ | ⟨e1, e2⟩
      · subst e2
        have hk1 : kk = 1 := by omega
        refine AX_catch (from_ := 0) (to_ := 9) (hp := 12) (ct := 19) (j := 3) [] [(0, 9, 15, 74)] rfl ⟨by decide, by decide⟩ (by decide) exI_x clLh_19 (by decide +kernel) (List.forall_mem_nil _) (by decide) rfl rfl (Or.inl ⟨3, rfl, dL_nextCost_12, ?_⟩)
        refine e_iconst dL_nextCost_13 ?_
        refine e_iret dL_nextCost_14 rfl trivial (by decide) (by decide) ?_
        exact ⟨by rw [hk1], fun m hm => qf m (by omega), ⟨(qf 6 (by omega)).1.trans h6.1, (qf 6 (by omega)).2.1.trans h6.2⟩, Or.inr ⟨by omega, qR⟩⟩
      · subst e2
        have hk1 : kk = 2 := by omega
        refine AX_catch (from_ := 0) (to_ := 9) (hp := 15) (ct := 74) (j := 3) [(0, 9, 12, 19)] [] rfl ⟨by decide, by decide⟩ (by decide) exN_x clLh_74 (by decide +kernel) (List.forall_mem_cons.mpr ⟨⟨by decide, exI, exI_x, by decide +kernel, clLh_19⟩, (List.forall_mem_nil _)⟩) (by decide) rfl rfl (Or.inl ⟨3, rfl, dL_nextCost_15, ?_⟩)
        refine e_iconst dL_nextCost_16 ?_
        refine e_iret dL_nextCost_17 rfl trivial (by decide) (by decide) ?_
        exact ⟨by rw [hk1], fun m hm => qf m (by omega), ⟨(qf 6 (by omega)).1.trans h6.1, (qf 6 (by omega)).2.1.trans h6.2⟩, Or.inr ⟨by omega, qR⟩⟩) (fun v h9 q => ?_)
  obtain ⟨qf, q0, qv, qR⟩ := QC_l q
  subst qv
  have g0 : zK h9 6 = 102 := (qf 6 (by omega)).1.trans h6.1
  have g1 : zN h9 6 = 1 := (qf 6 (by omega)).2.1.trans h6.2
  refine e_i2lw dL_nextCost_7 ?_
  refine e_last dL_nextCost_8 g0 (by decide) (by rw [g1]; decide) ?_
  refine e_goto (tgt := 18) dL_nextCost_9 (by decide) ?_
  refine e_iconst dL_nextCost_18 ?_
  refine e_iret dL_nextCost_19 rfl trivial (by decide) (by decide) ?_
  exact ⟨by rw [q0], fun m hm => eqAt_tr (qf m (by omega)) (eqAt_sm (by omega)), ⟨g0, g1⟩, Or.inl ⟨q0, zm_eq, RC_67 (fun m m6 m7 => eqAt_sm m6) qR⟩⟩
set_option maxHeartbeats 4000000 in
set_option maxRecDepth 100000 in
theorem c_L_tick {l : Launch} (hl : l.stackTraces = false) {S : S9} {h : zH} {B : Int} (hR : RC S h) (hI : II S B) (h6 : zK h 6 = 102 ∧ zN h 6 = 1) (t : Int) (htz : zin t) (hB0 : 0 ≤ B ∧ B ≤ 800000000) : zCH l ML_tick [zR (some 2), zI t, zR (some 6)] h (QL S h (if ¬ (1 ≤ t ∧ t ≤ 20) then 1 else 0) ((Int32.ofInt (tikV S t.toNat)).toInt) (tikS S t)) := by
  have hc0 := c_X8_tick hl hR hI t htz hB0
  obtain ⟨kk, hkk⟩ : ∃ kk : Int, kk = (if ¬ (1 ≤ t ∧ t ≤ 20) then 1 else 0) := ⟨_, rfl⟩
  rw [← hkk] at hc0 ⊢
  refine zCH_of hl rfl (by decide) rfl rfl (Nat.le_of_ble_eq_true rfl) ?_
  refine e_aload_n dL_tick_0 rfl rfl ?_
  refine e_iconst dL_tick_1 ?_
  refine e_aload_n dL_tick_2 rfl rfl ?_
  refine e_iload_n dL_tick_3 rfl rfl ?_
  refine e_callV (As := [zI _]) (cb := 9) dL_tick_4 moX8_tick mvX8_tick mlL_79 (by decide) rfl (show zK h 2 = 9 + 1 from hR.1.1.1) rfl (Nat.le_of_ble_eq_true rfl) ⟨by decide, by decide, by decide, by decide⟩ hc0 (fun E h9 q => by
      obtain ⟨qf, q0, qx, qR⟩ := QC_r q
      obtain ⟨e1, e2⟩ := xs1 qx
      subst e2
      have hk1 : kk = 1 := by omega
      refine AX_catch (from_ := 0) (to_ := 9) (hp := 12) (ct := 21) (j := 3) [] [] rfl ⟨by decide, by decide⟩ (by decide) exA_x clLh_21 (by decide +kernel) (List.forall_mem_nil _) (by decide) rfl rfl (Or.inl ⟨3, rfl, dL_tick_12, ?_⟩)
      refine e_iconst dL_tick_13 ?_
      refine e_iret dL_tick_14 rfl trivial (by decide) (by decide) ?_
      exact ⟨by rw [hk1], fun m hm => qf m (by omega), ⟨(qf 6 (by omega)).1.trans h6.1, (qf 6 (by omega)).2.1.trans h6.2⟩, Or.inr ⟨by omega, qR⟩⟩) (fun v h9 q => ?_)
  obtain ⟨qf, q0, qv, qR⟩ := QC_l q
  subst qv
  have g0 : zK h9 6 = 102 := (qf 6 (by omega)).1.trans h6.1
  have g1 : zN h9 6 = 1 := (qf 6 (by omega)).2.1.trans h6.2
  refine e_i2lw dL_tick_7 ?_
  refine e_last dL_tick_8 g0 (by decide) (by rw [g1]; decide) ?_
  refine e_goto (tgt := 15) dL_tick_9 (by decide) ?_
  refine e_iconst dL_tick_15 ?_
  refine e_iret dL_tick_16 rfl trivial (by decide) (by decide) ?_
  exact ⟨by rw [q0], fun m hm => eqAt_tr (qf m (by omega)) (eqAt_sm (by omega)), ⟨g0, g1⟩, Or.inl ⟨q0, zm_eq, RC_67 (fun m m6 m7 => eqAt_sm m6) qR⟩⟩
set_option maxHeartbeats 4000000 in
set_option maxRecDepth 100000 in
theorem c_L_type {l : Launch} (hl : l.stackTraces = false) {S : S9} {h : zH} {B : Int} (hR : RC S h) (hI : II S B) (h6 : zK h 6 = 102 ∧ zN h 6 = 1) (hG : GMore l) (c : Int) (hcz : zin c) (t : Int) (ht0 : 0 ≤ t ∧ t < 65536) : zCH l ML_type [zR (some 2), zI c, zI t, zR (some 6)] h (QL S h (if ¬ isC S c then 1 else if t < 97 ∨ 122 < t then 2 else if topOf S (S 35 c) < 0 then 3 else if S 17 (S 35 c) = 20 then 4 else 0) ((Int32.ofInt (S 17 (S 35 c) + 1)).toInt) (typS S c t)) := by
  have hc0 := c_X8_type hl hR hI hG c hcz t ht0
  obtain ⟨kk, hkk⟩ : ∃ kk : Int, kk = (if ¬ isC S c then 1 else if t < 97 ∨ 122 < t then 2 else if topOf S (S 35 c) < 0 then 3 else if S 17 (S 35 c) = 20 then 4 else 0) := ⟨_, rfl⟩
  rw [← hkk] at hc0 ⊢
  refine zCH_of hl rfl (by decide) rfl rfl (Nat.le_of_ble_eq_true rfl) ?_
  refine e_aload_n dL_type_0 rfl rfl ?_
  refine e_iconst dL_type_1 ?_
  refine e_aload_n dL_type_2 rfl rfl ?_
  refine e_iload_n dL_type_3 rfl rfl ?_
  refine e_iload_n dL_type_4 rfl rfl ?_
  refine e_callV (As := [zI _, zI _]) (cb := 9) dL_type_5 moX8_type mvX8_type mlL_82 (by decide) rfl (show zK h 2 = 9 + 1 from hR.1.1.1) rfl (Nat.le_of_ble_eq_true rfl) ⟨by decide, by decide, by decide, by decide⟩ hc0 (fun E h9 q => by
      obtain ⟨qf, q0, qx, qR⟩ := QC_r q
      rcases xs4 qx with ⟨e1, e2⟩ | ⟨e1, e2⟩ | ⟨e1, e2⟩ | ⟨e1, e2⟩
      · subst e2
        have hk1 : kk = 1 := by omega
        refine AX_catch (from_ := 0) (to_ := 10) (hp := 13) (ct := 19) (j := 4) [] [(0, 10, 17, 21), (0, 10, 21, 86), (0, 10, 25, 13)] rfl ⟨by decide, by decide⟩ (by decide) exI_x clLh_19 (by decide +kernel) (List.forall_mem_nil _) (by decide) rfl rfl (Or.inr ⟨dL_type_13, ?_⟩)
        refine e_iconst dL_type_15 ?_
        refine e_iret dL_type_16 rfl trivial (by decide) (by decide) ?_
        exact ⟨by rw [hk1], fun m hm => qf m (by omega), ⟨(qf 6 (by omega)).1.trans h6.1, (qf 6 (by omega)).2.1.trans h6.2⟩, Or.inr ⟨by omega, qR⟩⟩
      · subst e2
        have hk1 : kk = 2 := by omega
        refine AX_catch (from_ := 0) (to_ := 10) (hp := 17) (ct := 21) (j := 4) [(0, 10, 13, 19)] [(0, 10, 21, 86), (0, 10, 25, 13)] rfl ⟨by decide, by decide⟩ (by decide) exA_x clLh_21 (by decide +kernel) (List.forall_mem_cons.mpr ⟨⟨by decide, exI, exI_x, by decide +kernel, clLh_19⟩, (List.forall_mem_nil _)⟩) (by decide) rfl rfl (Or.inr ⟨dL_type_17, ?_⟩)
        refine e_iconst dL_type_19 ?_
        refine e_iret dL_type_20 rfl trivial (by decide) (by decide) ?_
        exact ⟨by rw [hk1], fun m hm => qf m (by omega), ⟨(qf 6 (by omega)).1.trans h6.1, (qf 6 (by omega)).2.1.trans h6.2⟩, Or.inr ⟨by omega, qR⟩⟩
      · subst e2
        have hk1 : kk = 3 := by omega
        refine AX_catch (from_ := 0) (to_ := 10) (hp := 21) (ct := 86) (j := 4) [(0, 10, 13, 19), (0, 10, 17, 21)] [(0, 10, 25, 13)] rfl ⟨by decide, by decide⟩ (by decide) exU_x clLh_86 (by decide +kernel) (List.forall_mem_cons.mpr ⟨⟨by decide, exI, exI_x, by decide +kernel, clLh_19⟩, (List.forall_mem_cons.mpr ⟨⟨by decide, exA, exA_x, by decide +kernel, clLh_21⟩, (List.forall_mem_nil _)⟩)⟩) (by decide) rfl rfl (Or.inr ⟨dL_type_21, ?_⟩)
        refine e_iconst dL_type_23 ?_
        refine e_iret dL_type_24 rfl trivial (by decide) (by decide) ?_
        exact ⟨by rw [hk1], fun m hm => qf m (by omega), ⟨(qf 6 (by omega)).1.trans h6.1, (qf 6 (by omega)).2.1.trans h6.2⟩, Or.inr ⟨by omega, qR⟩⟩
      · subst e2
        have hk1 : kk = 4 := by omega
        refine AX_catch (from_ := 0) (to_ := 10) (hp := 25) (ct := 13) (j := 4) [(0, 10, 13, 19), (0, 10, 17, 21), (0, 10, 21, 86)] [] rfl ⟨by decide, by decide⟩ (by decide) exS_x clLh_13 (by decide +kernel) (List.forall_mem_cons.mpr ⟨⟨by decide, exI, exI_x, by decide +kernel, clLh_19⟩, (List.forall_mem_cons.mpr ⟨⟨by decide, exA, exA_x, by decide +kernel, clLh_21⟩, (List.forall_mem_cons.mpr ⟨⟨by decide, exU, exU_x, by decide +kernel, clLh_86⟩, (List.forall_mem_nil _)⟩)⟩)⟩) (by decide) rfl rfl (Or.inr ⟨dL_type_25, ?_⟩)
        refine e_iconst dL_type_27 ?_
        refine e_iret dL_type_28 rfl trivial (by decide) (by decide) ?_
        exact ⟨by rw [hk1], fun m hm => qf m (by omega), ⟨(qf 6 (by omega)).1.trans h6.1, (qf 6 (by omega)).2.1.trans h6.2⟩, Or.inr ⟨by omega, qR⟩⟩) (fun v h9 q => ?_)
  obtain ⟨qf, q0, qv, qR⟩ := QC_l q
  subst qv
  have g0 : zK h9 6 = 102 := (qf 6 (by omega)).1.trans h6.1
  have g1 : zN h9 6 = 1 := (qf 6 (by omega)).2.1.trans h6.2
  refine e_i2lw dL_type_8 ?_
  refine e_last dL_type_9 g0 (by decide) (by rw [g1]; decide) ?_
  refine e_goto (tgt := 29) dL_type_10 (by decide) ?_
  refine e_iconst dL_type_29 ?_
  refine e_iret dL_type_30 rfl trivial (by decide) (by decide) ?_
  exact ⟨by rw [q0], fun m hm => eqAt_tr (qf m (by omega)) (eqAt_sm (by omega)), ⟨g0, g1⟩, Or.inl ⟨q0, zm_eq, RC_67 (fun m m6 m7 => eqAt_sm m6) qR⟩⟩
set_option maxHeartbeats 4000000 in
set_option maxRecDepth 100000 in
theorem c_L_guesses {l : Launch} (hl : l.stackTraces = false) {S : S9} {h : zH} {B : Int} (hR : RC S h) (hI : II S B) (h6 : zK h 6 = 102 ∧ zN h 6 = 1) (c : Int) (hcz : zin c) : zCH l ML_guesses [zR (some 2), zI c, zR (some 6)] h (QL S h (if ¬ isC S c then 1 else 0) ((Int32.ofInt (gues S c)).toInt) S) := by
  have hc0 := c_X8_guesses hl hR hI c hcz
  obtain ⟨kk, hkk⟩ : ∃ kk : Int, kk = (if ¬ isC S c then 1 else 0) := ⟨_, rfl⟩
  rw [← hkk] at hc0 ⊢
  refine zCH_of hl rfl (by decide) rfl rfl (Nat.le_of_ble_eq_true rfl) ?_
  refine e_aload_n dL_guesses_0 rfl rfl ?_
  refine e_iconst dL_guesses_1 ?_
  refine e_aload_n dL_guesses_2 rfl rfl ?_
  refine e_iload_n dL_guesses_3 rfl rfl ?_
  refine e_callV (As := [zI _]) (cb := 9) dL_guesses_4 moX8_guesses mvX8_guesses mlL_88 (by decide) rfl (show zK h 2 = 9 + 1 from hR.1.1.1) rfl (Nat.le_of_ble_eq_true rfl) ⟨by decide, by decide, by decide, by decide⟩ hc0 (fun E h9 q => by
      obtain ⟨qf, q0, qx, qR⟩ := QC_r q
      obtain ⟨e1, e2⟩ := xs1 qx
      subst e2
      have hk1 : kk = 1 := by omega
      refine AX_catch (from_ := 0) (to_ := 9) (hp := 12) (ct := 19) (j := 3) [] [] rfl ⟨by decide, by decide⟩ (by decide) exI_x clLh_19 (by decide +kernel) (List.forall_mem_nil _) (by decide) rfl rfl (Or.inl ⟨3, rfl, dL_guesses_12, ?_⟩)
      refine e_iconst dL_guesses_13 ?_
      refine e_iret dL_guesses_14 rfl trivial (by decide) (by decide) ?_
      exact ⟨by rw [hk1], fun m hm => qf m (by omega), ⟨(qf 6 (by omega)).1.trans h6.1, (qf 6 (by omega)).2.1.trans h6.2⟩, Or.inr ⟨by omega, qR⟩⟩) (fun v h9 q => ?_)
  obtain ⟨qf, q0, qv, qR⟩ := QC_l q
  subst qv
  have g0 : zK h9 6 = 102 := (qf 6 (by omega)).1.trans h6.1
  have g1 : zN h9 6 = 1 := (qf 6 (by omega)).2.1.trans h6.2
  refine e_i2lw dL_guesses_7 ?_
  refine e_last dL_guesses_8 g0 (by decide) (by rw [g1]; decide) ?_
  refine e_goto (tgt := 15) dL_guesses_9 (by decide) ?_
  refine e_iconst dL_guesses_15 ?_
  refine e_iret dL_guesses_16 rfl trivial (by decide) (by decide) ?_
  exact ⟨by rw [q0], fun m hm => eqAt_tr (qf m (by omega)) (eqAt_sm (by omega)), ⟨g0, g1⟩, Or.inl ⟨q0, zm_eq, RC_67 (fun m m6 m7 => eqAt_sm m6) qR⟩⟩
set_option maxHeartbeats 4000000 in
set_option maxRecDepth 100000 in
theorem c_L_rightShare {l : Launch} (hl : l.stackTraces = false) {S : S9} {h : zH} {B : Int} (hR : RC S h) (hI : II S B) (h7 : zK h 7 = 103 ∧ zN h 7 = 1) (hB9 : B ≤ 2000000000) (c : Int) (hcz : zin c) : zCH l ML_rightShare [zR (some 2), zI c, zR (some 7)] h (QD S h (if ¬ isC S c then 1 else if S 38 c = 0 then 2 else 0) (FP.f2d (fsh (S 39 c) (S 38 c))) S) := by
  have hc0 := c_X8_rightShare hl hR hI hB9 c hcz
  obtain ⟨kk, hkk⟩ : ∃ kk : Int, kk = (if ¬ isC S c then 1 else if S 38 c = 0 then 2 else 0) := ⟨_, rfl⟩
  rw [← hkk] at hc0 ⊢
  refine zCH_of hl rfl (by decide) rfl rfl (Nat.le_of_ble_eq_true rfl) ?_
  refine e_aload_n dL_rightShare_0 rfl rfl ?_
  refine e_iconst dL_rightShare_1 ?_
  refine e_aload_n dL_rightShare_2 rfl rfl ?_
  refine e_iload_n dL_rightShare_3 rfl rfl ?_
  refine e_callV (As := [zI _]) (cb := 9) dL_rightShare_4 moX8_rightShare mvX8_rightShare mlL_91 (by decide) rfl (show zK h 2 = 9 + 1 from hR.1.1.1) rfl (Nat.le_of_ble_eq_true rfl) ⟨by decide, by decide, by decide, by decide⟩ hc0 (fun E h9 q => by
      obtain ⟨qf, q0, qx, qR⟩ := QC_r q
      rcases xs2 qx with ⟨e1, e2⟩ | ⟨e1, e2⟩
      · subst e2
        have hk1 : kk = 1 := by omega
        refine AX_catch (from_ := 0) (to_ := 9) (hp := 12) (ct := 19) (j := 3) [] [(0, 9, 15, 95)] rfl ⟨by decide, by decide⟩ (by decide) exI_x clLh_19 (by decide +kernel) (List.forall_mem_nil _) (by decide) rfl rfl (Or.inl ⟨3, rfl, dL_rightShare_12, ?_⟩)
        refine e_iconst dL_rightShare_13 ?_
        refine e_iret dL_rightShare_14 rfl trivial (by decide) (by decide) ?_
        exact ⟨by rw [hk1], fun m hm => qf m (by omega), ⟨(qf 7 (by omega)).1.trans h7.1, (qf 7 (by omega)).2.1.trans h7.2⟩, Or.inr ⟨by omega, qR⟩⟩
      · subst e2
        have hk1 : kk = 2 := by omega
        refine AX_catch (from_ := 0) (to_ := 9) (hp := 15) (ct := 95) (j := 3) [(0, 9, 12, 19)] [] rfl ⟨by decide, by decide⟩ (by decide) exM_x clLh_95 (by decide +kernel) (List.forall_mem_cons.mpr ⟨⟨by decide, exI, exI_x, by decide +kernel, clLh_19⟩, (List.forall_mem_nil _)⟩) (by decide) rfl rfl (Or.inl ⟨3, rfl, dL_rightShare_15, ?_⟩)
        refine e_iconst dL_rightShare_16 ?_
        refine e_iret dL_rightShare_17 rfl trivial (by decide) (by decide) ?_
        exact ⟨by rw [hk1], fun m hm => qf m (by omega), ⟨(qf 7 (by omega)).1.trans h7.1, (qf 7 (by omega)).2.1.trans h7.2⟩, Or.inr ⟨by omega, qR⟩⟩) (fun v h9 q => ?_)
  obtain ⟨qf, q0, qv, qR⟩ := QC_l q
  subst qv
  have g0 : zK h9 7 = 103 := (qf 7 (by omega)).1.trans h7.1
  have g1 : zN h9 7 = 1 := (qf 7 (by omega)).2.1.trans h7.2
  have hc9 : isC S c ∧ S 38 c ≠ 0 := by
    rw [hkk] at q0
    by_cases y : isC S c
    · rw [if_neg (by omega)] at q0
      by_cases y2 : S 38 c = 0
      · rw [if_pos y2] at q0; cases q0
      · exact ⟨y, y2⟩
    · rw [if_pos y] at q0; cases q0
  have b3 := hI.2.2.1.1 c hc9.1.1 hc9.1.2
  refine e_f2d dL_rightShare_7 (f2d_ok (fsh_nn (by omega) (by omega) (by omega) (by omega))) ?_
  refine e_dast dL_rightShare_8 g0 (by decide) (by rw [g1]; decide) ?_
  refine e_goto (tgt := 18) dL_rightShare_9 (by decide) ?_
  refine e_iconst dL_rightShare_18 ?_
  refine e_iret dL_rightShare_19 rfl trivial (by decide) (by decide) ?_
  exact ⟨by rw [q0], fun m hm => eqAt_tr (qf m (by omega)) (eqAt_sd (by omega)), ⟨g0, g1⟩, Or.inl ⟨q0, zd_eq, RC_67 (fun m m6 m7 => eqAt_sd m7) qR⟩⟩
set_option maxHeartbeats 4000000 in
set_option maxRecDepth 100000 in
theorem c_L_copy {l : Launch} (hl : l.stackTraces = false) {S : S9} {h : zH} {B : Int} (hR : RC S h) (hI : II S B) (h6 : zK h 6 = 102 ∧ zN h 6 = 1) (s : Int) (hsz : zin s) (t : Int) (htz : zin t) (v : Int) (hvz : zin v) : zCH l ML_copy [zR (some 2), zI s, zI t, zI v, zR (some 6)] h (QL S h (if ¬ isS S s then 1 else if ¬ ((0 ≤ t ∧ t ≤ 2) ∧ (0 ≤ v ∧ v ≤ 9999)) then 2 else 0) ((Int32.ofInt (if S 22 s = 0 then -1 else S 23 s)).toInt) (copS S s t v)) := by
  have hc0 := c_X8_copy hl hR hI s hsz t htz v hvz
  obtain ⟨kk, hkk⟩ : ∃ kk : Int, kk = (if ¬ isS S s then 1 else if ¬ ((0 ≤ t ∧ t ≤ 2) ∧ (0 ≤ v ∧ v ≤ 9999)) then 2 else 0) := ⟨_, rfl⟩
  rw [← hkk] at hc0 ⊢
  refine zCH_of hl rfl (by decide) rfl rfl (Nat.le_of_ble_eq_true rfl) ?_
  refine e_aload dL_copy_0 rfl ?_
  refine e_iconst dL_copy_2 ?_
  refine e_aload_n dL_copy_3 rfl rfl ?_
  refine e_iload_n dL_copy_4 rfl rfl ?_
  refine e_iload_n dL_copy_5 rfl rfl ?_
  refine e_iload_n dL_copy_6 rfl rfl ?_
  refine e_callV (As := [zI _, zI _, zI _]) (cb := 9) dL_copy_7 moX8_copy mvX8_copy mlL_97 (by decide) rfl (show zK h 2 = 9 + 1 from hR.1.1.1) rfl (Nat.le_of_ble_eq_true rfl) ⟨by decide, by decide, by decide, by decide⟩ hc0 (fun E h9 q => by
      obtain ⟨qf, q0, qx, qR⟩ := QC_r q
      rcases xs2 qx with ⟨e1, e2⟩ | ⟨e1, e2⟩
      · subst e2
        have hk1 : kk = 1 := by omega
        refine AX_catch (from_ := 0) (to_ := 12) (hp := 15) (ct := 19) (j := 5) [] [(0, 12, 19, 21)] rfl ⟨by decide, by decide⟩ (by decide) exI_x clLh_19 (by decide +kernel) (List.forall_mem_nil _) (by decide) rfl rfl (Or.inr ⟨dL_copy_15, ?_⟩)
        refine e_iconst dL_copy_17 ?_
        refine e_iret dL_copy_18 rfl trivial (by decide) (by decide) ?_
        exact ⟨by rw [hk1], fun m hm => qf m (by omega), ⟨(qf 6 (by omega)).1.trans h6.1, (qf 6 (by omega)).2.1.trans h6.2⟩, Or.inr ⟨by omega, qR⟩⟩
      · subst e2
        have hk1 : kk = 2 := by omega
        refine AX_catch (from_ := 0) (to_ := 12) (hp := 19) (ct := 21) (j := 5) [(0, 12, 15, 19)] [] rfl ⟨by decide, by decide⟩ (by decide) exA_x clLh_21 (by decide +kernel) (List.forall_mem_cons.mpr ⟨⟨by decide, exI, exI_x, by decide +kernel, clLh_19⟩, (List.forall_mem_nil _)⟩) (by decide) rfl rfl (Or.inr ⟨dL_copy_19, ?_⟩)
        refine e_iconst dL_copy_21 ?_
        refine e_iret dL_copy_22 rfl trivial (by decide) (by decide) ?_
        exact ⟨by rw [hk1], fun m hm => qf m (by omega), ⟨(qf 6 (by omega)).1.trans h6.1, (qf 6 (by omega)).2.1.trans h6.2⟩, Or.inr ⟨by omega, qR⟩⟩) (fun v h9 q => ?_)
  obtain ⟨qf, q0, qv, qR⟩ := QC_l q
  subst qv
  have g0 : zK h9 6 = 102 := (qf 6 (by omega)).1.trans h6.1
  have g1 : zN h9 6 = 1 := (qf 6 (by omega)).2.1.trans h6.2
  refine e_i2lw dL_copy_10 ?_
  refine e_last dL_copy_11 g0 (by decide) (by rw [g1]; decide) ?_
  refine e_goto (tgt := 23) dL_copy_12 (by decide) ?_
  refine e_iconst dL_copy_23 ?_
  refine e_iret dL_copy_24 rfl trivial (by decide) (by decide) ?_
  exact ⟨by rw [q0], fun m hm => eqAt_tr (qf m (by omega)) (eqAt_sm (by omega)), ⟨g0, g1⟩, Or.inl ⟨q0, zm_eq, RC_67 (fun m m6 m7 => eqAt_sm m6) qR⟩⟩
set_option maxHeartbeats 4000000 in
set_option maxRecDepth 100000 in
theorem c_L_allow {l : Launch} (hl : l.stackTraces = false) {S : S9} {h : zH} {B : Int} (hR : RC S h) (hI : II S B) (h6 : zK h 6 = 102 ∧ zN h 6 = 1) (a : Int) (haz : zin a) (b : Int) (hbz : zin b) (t : Int) (htz : zin t) (v : Int) (hv : v = 0 ∨ v = 1) : zCH l ML_allow [zR (some 2), zI a, zI b, zI t, zI v, zR (some 6)] h (QL S h (if ¬ (isS S a ∧ isS S b) then 1 else if ¬ (0 ≤ t ∧ t ≤ 2) ∨ a = b then 2 else 0) (if (S 25 ((4 * a + b) * 3 + t)) = 0 then 0 else 1) (up S 25 ((4 * a + b) * 3 + t) v)) := by
  have hc0 := c_X8_allow hl hR hI a haz b hbz t htz v hv
  obtain ⟨kk, hkk⟩ : ∃ kk : Int, kk = (if ¬ (isS S a ∧ isS S b) then 1 else if ¬ (0 ≤ t ∧ t ≤ 2) ∨ a = b then 2 else 0) := ⟨_, rfl⟩
  rw [← hkk] at hc0 ⊢
  have hv01 : (S 25 ((4 * a + b) * 3 + t)) = 0 ∨ (S 25 ((4 * a + b) * 3 + t)) = 1 := (hI.2.2.2.2 25 (by decide) _)
  refine zCH_of hl rfl (by decide) rfl rfl (Nat.le_of_ble_eq_true rfl) ?_
  refine e_aload dL_allow_0 rfl ?_
  refine e_iconst dL_allow_2 ?_
  refine e_aload_n dL_allow_3 rfl rfl ?_
  refine e_iload_n dL_allow_4 rfl rfl ?_
  refine e_iload_n dL_allow_5 rfl rfl ?_
  refine e_iload_n dL_allow_6 rfl rfl ?_
  refine e_iload dL_allow_7 rfl ?_
  refine e_callV (As := [zI _, zI _, zI _, zI _]) (cb := 9) dL_allow_9 moX8_allow mvX8_allow mlL_100 (by decide) rfl (show zK h 2 = 9 + 1 from hR.1.1.1) rfl (Nat.le_of_ble_eq_true rfl) ⟨by decide, by decide, by decide, by decide⟩ hc0 (fun E h9 q => by
      obtain ⟨qf, q0, qx, qR⟩ := QC_r q
      rcases xs2 qx with ⟨e1, e2⟩ | ⟨e1, e2⟩
      · subst e2
        have hk1 : kk = 1 := by omega
        refine AX_catch (from_ := 0) (to_ := 21) (hp := 24) (ct := 19) (j := 6) [] [(0, 21, 28, 21)] rfl ⟨by decide, by decide⟩ (by decide) exI_x clLh_19 (by decide +kernel) (List.forall_mem_nil _) (by decide) rfl rfl (Or.inr ⟨dL_allow_24, ?_⟩)
        refine e_iconst dL_allow_26 ?_
        refine e_iret dL_allow_27 rfl trivial (by decide) (by decide) ?_
        exact ⟨by rw [hk1], fun m hm => qf m (by omega), ⟨(qf 6 (by omega)).1.trans h6.1, (qf 6 (by omega)).2.1.trans h6.2⟩, Or.inr ⟨by omega, qR⟩⟩
      · subst e2
        have hk1 : kk = 2 := by omega
        refine AX_catch (from_ := 0) (to_ := 21) (hp := 28) (ct := 21) (j := 6) [(0, 21, 24, 19)] [] rfl ⟨by decide, by decide⟩ (by decide) exA_x clLh_21 (by decide +kernel) (List.forall_mem_cons.mpr ⟨⟨by decide, exI, exI_x, by decide +kernel, clLh_19⟩, (List.forall_mem_nil _)⟩) (by decide) rfl rfl (Or.inr ⟨dL_allow_28, ?_⟩)
        refine e_iconst dL_allow_30 ?_
        refine e_iret dL_allow_31 rfl trivial (by decide) (by decide) ?_
        exact ⟨by rw [hk1], fun m hm => qf m (by omega), ⟨(qf 6 (by omega)).1.trans h6.1, (qf 6 (by omega)).2.1.trans h6.2⟩, Or.inr ⟨by omega, qR⟩⟩) (fun v h9 q => ?_)
  obtain ⟨qf, q0, qv, qR⟩ := QC_l q
  subst qv
  have g0 : zK h9 6 = 102 := (qf 6 (by omega)).1.trans h6.1
  have g1 : zN h9 6 = 1 := (qf 6 (by omega)).2.1.trans h6.2
  refine e_if_eq (tgt := 19) dL_allow_12 (by decide) (by omega) (fun c0 => ?_) (fun c0 => ?_)
  · skip
    refine e_lconst (z := 0) dL_allow_19 (by decide) ?_
    refine e_last dL_allow_20 g0 (by decide) (by rw [g1]; decide) ?_
    refine e_goto (tgt := 32) dL_allow_21 (by decide) ?_
    refine e_iconst dL_allow_32 ?_
    refine e_iret dL_allow_33 rfl trivial (by decide) (by decide) ?_
    exact ⟨by rw [q0], fun m hm => eqAt_tr (qf m (by omega)) (eqAt_sm (by omega)), ⟨g0, g1⟩, Or.inl ⟨q0, by rw [if_pos c0]; exact zm_eq, RC_67 (fun m m6 m7 => eqAt_sm m6) qR⟩⟩
  · skip
    refine e_lconst (z := 1) dL_allow_15 (by decide) ?_
    refine e_goto (tgt := 20) dL_allow_16 (by decide) ?_
    refine e_last dL_allow_20 g0 (by decide) (by rw [g1]; decide) ?_
    refine e_goto (tgt := 32) dL_allow_21 (by decide) ?_
    refine e_iconst dL_allow_32 ?_
    refine e_iret dL_allow_33 rfl trivial (by decide) (by decide) ?_
    exact ⟨by rw [q0], fun m hm => eqAt_tr (qf m (by omega)) (eqAt_sm (by omega)), ⟨g0, g1⟩, Or.inl ⟨q0, by rw [if_neg c0]; exact zm_eq, RC_67 (fun m m6 m7 => eqAt_sm m6) qR⟩⟩
set_option maxHeartbeats 4000000 in
set_option maxRecDepth 100000 in
theorem c_L_paste {l : Launch} (hl : l.stackTraces = false) {S : S9} {h : zH} {B : Int} (hR : RC S h) (hI : II S B) (h6 : zK h 6 = 102 ∧ zN h 6 = 1) (a : Int) (haz : zin a) (b : Int) (hbz : zin b) : zCH l ML_paste [zR (some 2), zI a, zI b, zR (some 6)] h (QL S h (if ¬ (isS S a ∧ isS S b) ∨ a = b then 1 else if S 22 a = 0 then 2 else if mayN S a b 4 = 0 then 3 else 0) ((Int32.ofInt (S 23 a)).toInt) (pasS S a b)) := by
  have hc0 := c_X8_paste hl hR hI a haz b hbz
  obtain ⟨kk, hkk⟩ : ∃ kk : Int, kk = (if ¬ (isS S a ∧ isS S b) ∨ a = b then 1 else if S 22 a = 0 then 2 else if mayN S a b 4 = 0 then 3 else 0) := ⟨_, rfl⟩
  rw [← hkk] at hc0 ⊢
  refine zCH_of hl rfl (by decide) rfl rfl (Nat.le_of_ble_eq_true rfl) ?_
  refine e_aload_n dL_paste_0 rfl rfl ?_
  refine e_iconst dL_paste_1 ?_
  refine e_aload_n dL_paste_2 rfl rfl ?_
  refine e_iload_n dL_paste_3 rfl rfl ?_
  refine e_iload_n dL_paste_4 rfl rfl ?_
  refine e_callV (As := [zI _, zI _]) (cb := 9) dL_paste_5 moX8_paste mvX8_paste mlL_104 (by decide) rfl (show zK h 2 = 9 + 1 from hR.1.1.1) rfl (Nat.le_of_ble_eq_true rfl) ⟨by decide, by decide, by decide, by decide⟩ hc0 (fun E h9 q => by
      obtain ⟨qf, q0, qx, qR⟩ := QC_r q
      rcases xs3 qx with ⟨e1, e2⟩ | ⟨e1, e2⟩ | ⟨e1, e2⟩
      · subst e2
        have hk1 : kk = 1 := by omega
        refine AX_catch (from_ := 0) (to_ := 10) (hp := 13) (ct := 19) (j := 4) [] [(0, 10, 17, 74), (0, 10, 21, 86)] rfl ⟨by decide, by decide⟩ (by decide) exI_x clLh_19 (by decide +kernel) (List.forall_mem_nil _) (by decide) rfl rfl (Or.inr ⟨dL_paste_13, ?_⟩)
        refine e_iconst dL_paste_15 ?_
        refine e_iret dL_paste_16 rfl trivial (by decide) (by decide) ?_
        exact ⟨by rw [hk1], fun m hm => qf m (by omega), ⟨(qf 6 (by omega)).1.trans h6.1, (qf 6 (by omega)).2.1.trans h6.2⟩, Or.inr ⟨by omega, qR⟩⟩
      · subst e2
        have hk1 : kk = 2 := by omega
        refine AX_catch (from_ := 0) (to_ := 10) (hp := 17) (ct := 74) (j := 4) [(0, 10, 13, 19)] [(0, 10, 21, 86)] rfl ⟨by decide, by decide⟩ (by decide) exN_x clLh_74 (by decide +kernel) (List.forall_mem_cons.mpr ⟨⟨by decide, exI, exI_x, by decide +kernel, clLh_19⟩, (List.forall_mem_nil _)⟩) (by decide) rfl rfl (Or.inr ⟨dL_paste_17, ?_⟩)
        refine e_iconst dL_paste_19 ?_
        refine e_iret dL_paste_20 rfl trivial (by decide) (by decide) ?_
        exact ⟨by rw [hk1], fun m hm => qf m (by omega), ⟨(qf 6 (by omega)).1.trans h6.1, (qf 6 (by omega)).2.1.trans h6.2⟩, Or.inr ⟨by omega, qR⟩⟩
      · subst e2
        have hk1 : kk = 3 := by omega
        refine AX_catch (from_ := 0) (to_ := 10) (hp := 21) (ct := 86) (j := 4) [(0, 10, 13, 19), (0, 10, 17, 74)] [] rfl ⟨by decide, by decide⟩ (by decide) exU_x clLh_86 (by decide +kernel) (List.forall_mem_cons.mpr ⟨⟨by decide, exI, exI_x, by decide +kernel, clLh_19⟩, (List.forall_mem_cons.mpr ⟨⟨by decide, exN, exN_x, by decide +kernel, clLh_74⟩, (List.forall_mem_nil _)⟩)⟩) (by decide) rfl rfl (Or.inr ⟨dL_paste_21, ?_⟩)
        refine e_iconst dL_paste_23 ?_
        refine e_iret dL_paste_24 rfl trivial (by decide) (by decide) ?_
        exact ⟨by rw [hk1], fun m hm => qf m (by omega), ⟨(qf 6 (by omega)).1.trans h6.1, (qf 6 (by omega)).2.1.trans h6.2⟩, Or.inr ⟨by omega, qR⟩⟩) (fun v h9 q => ?_)
  obtain ⟨qf, q0, qv, qR⟩ := QC_l q
  subst qv
  have g0 : zK h9 6 = 102 := (qf 6 (by omega)).1.trans h6.1
  have g1 : zN h9 6 = 1 := (qf 6 (by omega)).2.1.trans h6.2
  refine e_i2lw dL_paste_8 ?_
  refine e_last dL_paste_9 g0 (by decide) (by rw [g1]; decide) ?_
  refine e_goto (tgt := 25) dL_paste_10 (by decide) ?_
  refine e_iconst dL_paste_25 ?_
  refine e_iret dL_paste_26 rfl trivial (by decide) (by decide) ?_
  exact ⟨by rw [q0], fun m hm => eqAt_tr (qf m (by omega)) (eqAt_sm (by omega)), ⟨g0, g1⟩, Or.inl ⟨q0, zm_eq, RC_67 (fun m m6 m7 => eqAt_sm m6) qR⟩⟩
set_option maxHeartbeats 4000000 in
set_option maxRecDepth 100000 in
theorem c_L_move {l : Launch} (hl : l.stackTraces = false) {S : S9} {h : zH} {B : Int} (hR : RC S h) (hI : II S B) (h6 : zK h 6 = 102 ∧ zN h 6 = 1) (s : Int) (hsz : zin s) : zCH l ML_move [zR (some 2), zI s, zR (some 6)] h (QL S h (if ¬ isS S s then 1 else if S 26 s = 1 then 2 else 0) (if (b2 (0 < S 28 s)) = 0 then 0 else 1) (movgS S s)) := by
  have hc0 := c_X8_move hl hR hI s hsz
  obtain ⟨kk, hkk⟩ : ∃ kk : Int, kk = (if ¬ isS S s then 1 else if S 26 s = 1 then 2 else 0) := ⟨_, rfl⟩
  rw [← hkk] at hc0 ⊢
  have hv01 : (b2 (0 < S 28 s)) = 0 ∨ (b2 (0 < S 28 s)) = 1 := b2_01
  refine zCH_of hl rfl (by decide) rfl rfl (Nat.le_of_ble_eq_true rfl) ?_
  refine e_aload_n dL_move_0 rfl rfl ?_
  refine e_iconst dL_move_1 ?_
  refine e_aload_n dL_move_2 rfl rfl ?_
  refine e_iload_n dL_move_3 rfl rfl ?_
  refine e_callV (As := [zI _]) (cb := 9) dL_move_4 moX8_move mvX8_move mlL_107 (by decide) rfl (show zK h 2 = 9 + 1 from hR.1.1.1) rfl (Nat.le_of_ble_eq_true rfl) ⟨by decide, by decide, by decide, by decide⟩ hc0 (fun E h9 q => by
      obtain ⟨qf, q0, qx, qR⟩ := QC_r q
      rcases xs2 qx with ⟨e1, e2⟩ | ⟨e1, e2⟩
      · subst e2
        have hk1 : kk = 1 := by omega
        refine AX_catch (from_ := 0) (to_ := 16) (hp := 19) (ct := 19) (j := 3) [] [(0, 16, 22, 13)] rfl ⟨by decide, by decide⟩ (by decide) exI_x clLh_19 (by decide +kernel) (List.forall_mem_nil _) (by decide) rfl rfl (Or.inl ⟨3, rfl, dL_move_19, ?_⟩)
        refine e_iconst dL_move_20 ?_
        refine e_iret dL_move_21 rfl trivial (by decide) (by decide) ?_
        exact ⟨by rw [hk1], fun m hm => qf m (by omega), ⟨(qf 6 (by omega)).1.trans h6.1, (qf 6 (by omega)).2.1.trans h6.2⟩, Or.inr ⟨by omega, qR⟩⟩
      · subst e2
        have hk1 : kk = 2 := by omega
        refine AX_catch (from_ := 0) (to_ := 16) (hp := 22) (ct := 13) (j := 3) [(0, 16, 19, 19)] [] rfl ⟨by decide, by decide⟩ (by decide) exS_x clLh_13 (by decide +kernel) (List.forall_mem_cons.mpr ⟨⟨by decide, exI, exI_x, by decide +kernel, clLh_19⟩, (List.forall_mem_nil _)⟩) (by decide) rfl rfl (Or.inl ⟨3, rfl, dL_move_22, ?_⟩)
        refine e_iconst dL_move_23 ?_
        refine e_iret dL_move_24 rfl trivial (by decide) (by decide) ?_
        exact ⟨by rw [hk1], fun m hm => qf m (by omega), ⟨(qf 6 (by omega)).1.trans h6.1, (qf 6 (by omega)).2.1.trans h6.2⟩, Or.inr ⟨by omega, qR⟩⟩) (fun v h9 q => ?_)
  obtain ⟨qf, q0, qv, qR⟩ := QC_l q
  subst qv
  have g0 : zK h9 6 = 102 := (qf 6 (by omega)).1.trans h6.1
  have g1 : zN h9 6 = 1 := (qf 6 (by omega)).2.1.trans h6.2
  refine e_if_eq (tgt := 14) dL_move_7 (by decide) (by omega) (fun c0 => ?_) (fun c0 => ?_)
  · skip
    refine e_lconst (z := 0) dL_move_14 (by decide) ?_
    refine e_last dL_move_15 g0 (by decide) (by rw [g1]; decide) ?_
    refine e_goto (tgt := 25) dL_move_16 (by decide) ?_
    refine e_iconst dL_move_25 ?_
    refine e_iret dL_move_26 rfl trivial (by decide) (by decide) ?_
    exact ⟨by rw [q0], fun m hm => eqAt_tr (qf m (by omega)) (eqAt_sm (by omega)), ⟨g0, g1⟩, Or.inl ⟨q0, by rw [if_pos c0]; exact zm_eq, RC_67 (fun m m6 m7 => eqAt_sm m6) qR⟩⟩
  · skip
    refine e_lconst (z := 1) dL_move_10 (by decide) ?_
    refine e_goto (tgt := 15) dL_move_11 (by decide) ?_
    refine e_last dL_move_15 g0 (by decide) (by rw [g1]; decide) ?_
    refine e_goto (tgt := 25) dL_move_16 (by decide) ?_
    refine e_iconst dL_move_25 ?_
    refine e_iret dL_move_26 rfl trivial (by decide) (by decide) ?_
    exact ⟨by rw [q0], fun m hm => eqAt_tr (qf m (by omega)) (eqAt_sm (by omega)), ⟨g0, g1⟩, Or.inl ⟨q0, by rw [if_neg c0]; exact zm_eq, RC_67 (fun m m6 m7 => eqAt_sm m6) qR⟩⟩
set_option maxHeartbeats 4000000 in
set_option maxRecDepth 100000 in
theorem c_L_left {l : Launch} (hl : l.stackTraces = false) {S : S9} {h : zH} {B : Int} (hR : RC S h) (hI : II S B) (h6 : zK h 6 = 102 ∧ zN h 6 = 1) (s : Int) (hsz : zin s) : zCH l ML_left [zR (some 2), zI s, zR (some 6)] h (QL S h (if ¬ isS S s then 1 else if ¬ S 26 s = 1 then 2 else 0) ((Int32.ofInt (cntL S s)).toInt) S) := by
  have hc0 := c_X8_left hl hR hI s hsz
  obtain ⟨kk, hkk⟩ : ∃ kk : Int, kk = (if ¬ isS S s then 1 else if ¬ S 26 s = 1 then 2 else 0) := ⟨_, rfl⟩
  rw [← hkk] at hc0 ⊢
  refine zCH_of hl rfl (by decide) rfl rfl (Nat.le_of_ble_eq_true rfl) ?_
  refine e_aload_n dL_left_0 rfl rfl ?_
  refine e_iconst dL_left_1 ?_
  refine e_aload_n dL_left_2 rfl rfl ?_
  refine e_iload_n dL_left_3 rfl rfl ?_
  refine e_callV (As := [zI _]) (cb := 9) dL_left_4 moX8_left mvX8_left mlL_111 (by decide) rfl (show zK h 2 = 9 + 1 from hR.1.1.1) rfl (Nat.le_of_ble_eq_true rfl) ⟨by decide, by decide, by decide, by decide⟩ hc0 (fun E h9 q => by
      obtain ⟨qf, q0, qx, qR⟩ := QC_r q
      rcases xs2 qx with ⟨e1, e2⟩ | ⟨e1, e2⟩
      · subst e2
        have hk1 : kk = 1 := by omega
        refine AX_catch (from_ := 0) (to_ := 9) (hp := 12) (ct := 19) (j := 3) [] [(0, 9, 15, 13)] rfl ⟨by decide, by decide⟩ (by decide) exI_x clLh_19 (by decide +kernel) (List.forall_mem_nil _) (by decide) rfl rfl (Or.inl ⟨3, rfl, dL_left_12, ?_⟩)
        refine e_iconst dL_left_13 ?_
        refine e_iret dL_left_14 rfl trivial (by decide) (by decide) ?_
        exact ⟨by rw [hk1], fun m hm => qf m (by omega), ⟨(qf 6 (by omega)).1.trans h6.1, (qf 6 (by omega)).2.1.trans h6.2⟩, Or.inr ⟨by omega, qR⟩⟩
      · subst e2
        have hk1 : kk = 2 := by omega
        refine AX_catch (from_ := 0) (to_ := 9) (hp := 15) (ct := 13) (j := 3) [(0, 9, 12, 19)] [] rfl ⟨by decide, by decide⟩ (by decide) exS_x clLh_13 (by decide +kernel) (List.forall_mem_cons.mpr ⟨⟨by decide, exI, exI_x, by decide +kernel, clLh_19⟩, (List.forall_mem_nil _)⟩) (by decide) rfl rfl (Or.inl ⟨3, rfl, dL_left_15, ?_⟩)
        refine e_iconst dL_left_16 ?_
        refine e_iret dL_left_17 rfl trivial (by decide) (by decide) ?_
        exact ⟨by rw [hk1], fun m hm => qf m (by omega), ⟨(qf 6 (by omega)).1.trans h6.1, (qf 6 (by omega)).2.1.trans h6.2⟩, Or.inr ⟨by omega, qR⟩⟩) (fun v h9 q => ?_)
  obtain ⟨qf, q0, qv, qR⟩ := QC_l q
  subst qv
  have g0 : zK h9 6 = 102 := (qf 6 (by omega)).1.trans h6.1
  have g1 : zN h9 6 = 1 := (qf 6 (by omega)).2.1.trans h6.2
  refine e_i2lw dL_left_7 ?_
  refine e_last dL_left_8 g0 (by decide) (by rw [g1]; decide) ?_
  refine e_goto (tgt := 18) dL_left_9 (by decide) ?_
  refine e_iconst dL_left_18 ?_
  refine e_iret dL_left_19 rfl trivial (by decide) (by decide) ?_
  exact ⟨by rw [q0], fun m hm => eqAt_tr (qf m (by omega)) (eqAt_sm (by omega)), ⟨g0, g1⟩, Or.inl ⟨q0, zm_eq, RC_67 (fun m m6 m7 => eqAt_sm m6) qR⟩⟩
set_option maxHeartbeats 4000000 in
set_option maxRecDepth 100000 in
theorem c_L_host {l : Launch} (hl : l.stackTraces = false) {S : S9} {h : zH} {B : Int} (hR : RC S h) (hI : II S B) (h6 : zK h 6 = 102 ∧ zN h 6 = 1) (s : Int) (hsz : zin s) : zCH l ML_host [zR (some 2), zI s, zR (some 6)] h (QL S h (if ¬ isS S s then 1 else 0) ((Int32.ofInt (S 28 s)).toInt) S) := by
  have hc0 := c_X8_host hl hR hI s hsz
  obtain ⟨kk, hkk⟩ : ∃ kk : Int, kk = (if ¬ isS S s then 1 else 0) := ⟨_, rfl⟩
  rw [← hkk] at hc0 ⊢
  refine zCH_of hl rfl (by decide) rfl rfl (Nat.le_of_ble_eq_true rfl) ?_
  refine e_aload_n dL_host_0 rfl rfl ?_
  refine e_iconst dL_host_1 ?_
  refine e_aload_n dL_host_2 rfl rfl ?_
  refine e_iload_n dL_host_3 rfl rfl ?_
  refine e_callV (As := [zI _]) (cb := 9) dL_host_4 moX8_host mvX8_host mlL_114 (by decide) rfl (show zK h 2 = 9 + 1 from hR.1.1.1) rfl (Nat.le_of_ble_eq_true rfl) ⟨by decide, by decide, by decide, by decide⟩ hc0 (fun E h9 q => by
      obtain ⟨qf, q0, qx, qR⟩ := QC_r q
      obtain ⟨e1, e2⟩ := xs1 qx
      subst e2
      have hk1 : kk = 1 := by omega
      refine AX_catch (from_ := 0) (to_ := 9) (hp := 12) (ct := 19) (j := 3) [] [] rfl ⟨by decide, by decide⟩ (by decide) exI_x clLh_19 (by decide +kernel) (List.forall_mem_nil _) (by decide) rfl rfl (Or.inl ⟨3, rfl, dL_host_12, ?_⟩)
      refine e_iconst dL_host_13 ?_
      refine e_iret dL_host_14 rfl trivial (by decide) (by decide) ?_
      exact ⟨by rw [hk1], fun m hm => qf m (by omega), ⟨(qf 6 (by omega)).1.trans h6.1, (qf 6 (by omega)).2.1.trans h6.2⟩, Or.inr ⟨by omega, qR⟩⟩) (fun v h9 q => ?_)
  obtain ⟨qf, q0, qv, qR⟩ := QC_l q
  subst qv
  have g0 : zK h9 6 = 102 := (qf 6 (by omega)).1.trans h6.1
  have g1 : zN h9 6 = 1 := (qf 6 (by omega)).2.1.trans h6.2
  refine e_i2lw dL_host_7 ?_
  refine e_last dL_host_8 g0 (by decide) (by rw [g1]; decide) ?_
  refine e_goto (tgt := 15) dL_host_9 (by decide) ?_
  refine e_iconst dL_host_15 ?_
  refine e_iret dL_host_16 rfl trivial (by decide) (by decide) ?_
  exact ⟨by rw [q0], fun m hm => eqAt_tr (qf m (by omega)) (eqAt_sm (by omega)), ⟨g0, g1⟩, Or.inl ⟨q0, zm_eq, RC_67 (fun m m6 m7 => eqAt_sm m6) qR⟩⟩
set_option maxHeartbeats 4000000 in
set_option maxRecDepth 100000 in
theorem c_L_record {l : Launch} (hl : l.stackTraces = false) {S : S9} {h : zH} {B : Int} (hR : RC S h) (hI : II S B) (h6 : zK h 6 = 102 ∧ zN h 6 = 1) (s : Int) (hsz : zin s) : zCH l ML_record [zR (some 2), zI s, zR (some 6)] h (QL S h (if ¬ isS S s then 1 else 0) ((Int32.ofInt (S 32 s)).toInt) (recB S s)) := by
  have hc0 := c_X8_record hl hR hI s hsz
  obtain ⟨kk, hkk⟩ : ∃ kk : Int, kk = (if ¬ isS S s then 1 else 0) := ⟨_, rfl⟩
  rw [← hkk] at hc0 ⊢
  refine zCH_of hl rfl (by decide) rfl rfl (Nat.le_of_ble_eq_true rfl) ?_
  refine e_aload_n dL_record_0 rfl rfl ?_
  refine e_iconst dL_record_1 ?_
  refine e_aload_n dL_record_2 rfl rfl ?_
  refine e_iload_n dL_record_3 rfl rfl ?_
  refine e_callV (As := [zI _]) (cb := 9) dL_record_4 moX8_record mvX8_record mlL_117 (by decide) rfl (show zK h 2 = 9 + 1 from hR.1.1.1) rfl (Nat.le_of_ble_eq_true rfl) ⟨by decide, by decide, by decide, by decide⟩ hc0 (fun E h9 q => by
      obtain ⟨qf, q0, qx, qR⟩ := QC_r q
      obtain ⟨e1, e2⟩ := xs1 qx
      subst e2
      have hk1 : kk = 1 := by omega
      refine AX_catch (from_ := 0) (to_ := 9) (hp := 12) (ct := 19) (j := 3) [] [] rfl ⟨by decide, by decide⟩ (by decide) exI_x clLh_19 (by decide +kernel) (List.forall_mem_nil _) (by decide) rfl rfl (Or.inl ⟨3, rfl, dL_record_12, ?_⟩)
      refine e_iconst dL_record_13 ?_
      refine e_iret dL_record_14 rfl trivial (by decide) (by decide) ?_
      exact ⟨by rw [hk1], fun m hm => qf m (by omega), ⟨(qf 6 (by omega)).1.trans h6.1, (qf 6 (by omega)).2.1.trans h6.2⟩, Or.inr ⟨by omega, qR⟩⟩) (fun v h9 q => ?_)
  obtain ⟨qf, q0, qv, qR⟩ := QC_l q
  subst qv
  have g0 : zK h9 6 = 102 := (qf 6 (by omega)).1.trans h6.1
  have g1 : zN h9 6 = 1 := (qf 6 (by omega)).2.1.trans h6.2
  refine e_i2lw dL_record_7 ?_
  refine e_last dL_record_8 g0 (by decide) (by rw [g1]; decide) ?_
  refine e_goto (tgt := 15) dL_record_9 (by decide) ?_
  refine e_iconst dL_record_15 ?_
  refine e_iret dL_record_16 rfl trivial (by decide) (by decide) ?_
  exact ⟨by rw [q0], fun m hm => eqAt_tr (qf m (by omega)) (eqAt_sm (by omega)), ⟨g0, g1⟩, Or.inl ⟨q0, zm_eq, RC_67 (fun m m6 m7 => eqAt_sm m6) qR⟩⟩
set_option maxHeartbeats 4000000 in
set_option maxRecDepth 100000 in
theorem c_L_played {l : Launch} (hl : l.stackTraces = false) {S : S9} {h : zH} {B : Int} (hR : RC S h) (hI : II S B) (h6 : zK h 6 = 102 ∧ zN h 6 = 1) (s : Int) (hsz : zin s) (t : Int) (htz : zin t) (x : Int) (hxz : zin x) (y : Int) (hyz : zin y) : zCH l ML_played [zR (some 2), zI s, zI t, zI x, zI y, zR (some 6)] h (QL S h (if ¬ (isS S s ∧ isXY x y) then 1 else if ¬ (1 ≤ t ∧ t ≤ S 32 s) then 2 else 0) ((Int32.ofInt (S 34 ((60 * s + (t - 1)) * 96 + (y * 12 + x)))).toInt) S) := by
  have hc0 := c_X8_played hl hR hI s hsz t htz x hxz y hyz
  obtain ⟨kk, hkk⟩ : ∃ kk : Int, kk = (if ¬ (isS S s ∧ isXY x y) then 1 else if ¬ (1 ≤ t ∧ t ≤ S 32 s) then 2 else 0) := ⟨_, rfl⟩
  rw [← hkk] at hc0 ⊢
  refine zCH_of hl rfl (by decide) rfl rfl (Nat.le_of_ble_eq_true rfl) ?_
  refine e_aload dL_played_0 rfl ?_
  refine e_iconst dL_played_2 ?_
  refine e_aload_n dL_played_3 rfl rfl ?_
  refine e_iload_n dL_played_4 rfl rfl ?_
  refine e_iload_n dL_played_5 rfl rfl ?_
  refine e_iload_n dL_played_6 rfl rfl ?_
  refine e_iload dL_played_7 rfl ?_
  refine e_callV (As := [zI _, zI _, zI _, zI _]) (cb := 9) dL_played_9 moX8_played mvX8_played mlL_120 (by decide) rfl (show zK h 2 = 9 + 1 from hR.1.1.1) rfl (Nat.le_of_ble_eq_true rfl) ⟨by decide, by decide, by decide, by decide⟩ hc0 (fun E h9 q => by
      obtain ⟨qf, q0, qx, qR⟩ := QC_r q
      rcases xs2 qx with ⟨e1, e2⟩ | ⟨e1, e2⟩
      · subst e2
        have hk1 : kk = 1 := by omega
        refine AX_catch (from_ := 0) (to_ := 14) (hp := 17) (ct := 19) (j := 6) [] [(0, 14, 21, 74)] rfl ⟨by decide, by decide⟩ (by decide) exI_x clLh_19 (by decide +kernel) (List.forall_mem_nil _) (by decide) rfl rfl (Or.inr ⟨dL_played_17, ?_⟩)
        refine e_iconst dL_played_19 ?_
        refine e_iret dL_played_20 rfl trivial (by decide) (by decide) ?_
        exact ⟨by rw [hk1], fun m hm => qf m (by omega), ⟨(qf 6 (by omega)).1.trans h6.1, (qf 6 (by omega)).2.1.trans h6.2⟩, Or.inr ⟨by omega, qR⟩⟩
      · subst e2
        have hk1 : kk = 2 := by omega
        refine AX_catch (from_ := 0) (to_ := 14) (hp := 21) (ct := 74) (j := 6) [(0, 14, 17, 19)] [] rfl ⟨by decide, by decide⟩ (by decide) exN_x clLh_74 (by decide +kernel) (List.forall_mem_cons.mpr ⟨⟨by decide, exI, exI_x, by decide +kernel, clLh_19⟩, (List.forall_mem_nil _)⟩) (by decide) rfl rfl (Or.inr ⟨dL_played_21, ?_⟩)
        refine e_iconst dL_played_23 ?_
        refine e_iret dL_played_24 rfl trivial (by decide) (by decide) ?_
        exact ⟨by rw [hk1], fun m hm => qf m (by omega), ⟨(qf 6 (by omega)).1.trans h6.1, (qf 6 (by omega)).2.1.trans h6.2⟩, Or.inr ⟨by omega, qR⟩⟩) (fun v h9 q => ?_)
  obtain ⟨qf, q0, qv, qR⟩ := QC_l q
  subst qv
  have g0 : zK h9 6 = 102 := (qf 6 (by omega)).1.trans h6.1
  have g1 : zN h9 6 = 1 := (qf 6 (by omega)).2.1.trans h6.2
  refine e_i2lw dL_played_12 ?_
  refine e_last dL_played_13 g0 (by decide) (by rw [g1]; decide) ?_
  refine e_goto (tgt := 25) dL_played_14 (by decide) ?_
  refine e_iconst dL_played_25 ?_
  refine e_iret dL_played_26 rfl trivial (by decide) (by decide) ?_
  exact ⟨by rw [q0], fun m hm => eqAt_tr (qf m (by omega)) (eqAt_sm (by omega)), ⟨g0, g1⟩, Or.inl ⟨q0, zm_eq, RC_67 (fun m m6 m7 => eqAt_sm m6) qR⟩⟩
set_option maxHeartbeats 4000000 in
set_option maxRecDepth 100000 in
theorem c_L_noted {l : Launch} (hl : l.stackTraces = false) {S : S9} {h : zH} {B : Int} (hR : RC S h) (hI : II S B) (h6 : zK h 6 = 102 ∧ zN h 6 = 1) (s : Int) (hsz : zin s) : zCH l ML_noted [zR (some 2), zI s, zR (some 6)] h (QL S h (if ¬ isS S s then 1 else if ¬ S 31 s = 1 then 2 else 0) ((Int32.ofInt (S 33 s)).toInt) S) := by
  have hc0 := c_X8_noted hl hR hI s hsz
  obtain ⟨kk, hkk⟩ : ∃ kk : Int, kk = (if ¬ isS S s then 1 else if ¬ S 31 s = 1 then 2 else 0) := ⟨_, rfl⟩
  rw [← hkk] at hc0 ⊢
  refine zCH_of hl rfl (by decide) rfl rfl (Nat.le_of_ble_eq_true rfl) ?_
  refine e_aload_n dL_noted_0 rfl rfl ?_
  refine e_iconst dL_noted_1 ?_
  refine e_aload_n dL_noted_2 rfl rfl ?_
  refine e_iload_n dL_noted_3 rfl rfl ?_
  refine e_callV (As := [zI _]) (cb := 9) dL_noted_4 moX8_noted mvX8_noted mlL_123 (by decide) rfl (show zK h 2 = 9 + 1 from hR.1.1.1) rfl (Nat.le_of_ble_eq_true rfl) ⟨by decide, by decide, by decide, by decide⟩ hc0 (fun E h9 q => by
      obtain ⟨qf, q0, qx, qR⟩ := QC_r q
      rcases xs2 qx with ⟨e1, e2⟩ | ⟨e1, e2⟩
      · subst e2
        have hk1 : kk = 1 := by omega
        refine AX_catch (from_ := 0) (to_ := 9) (hp := 12) (ct := 19) (j := 3) [] [(0, 9, 15, 74)] rfl ⟨by decide, by decide⟩ (by decide) exI_x clLh_19 (by decide +kernel) (List.forall_mem_nil _) (by decide) rfl rfl (Or.inl ⟨3, rfl, dL_noted_12, ?_⟩)
        refine e_iconst dL_noted_13 ?_
        refine e_iret dL_noted_14 rfl trivial (by decide) (by decide) ?_
        exact ⟨by rw [hk1], fun m hm => qf m (by omega), ⟨(qf 6 (by omega)).1.trans h6.1, (qf 6 (by omega)).2.1.trans h6.2⟩, Or.inr ⟨by omega, qR⟩⟩
      · subst e2
        have hk1 : kk = 2 := by omega
        refine AX_catch (from_ := 0) (to_ := 9) (hp := 15) (ct := 74) (j := 3) [(0, 9, 12, 19)] [] rfl ⟨by decide, by decide⟩ (by decide) exN_x clLh_74 (by decide +kernel) (List.forall_mem_cons.mpr ⟨⟨by decide, exI, exI_x, by decide +kernel, clLh_19⟩, (List.forall_mem_nil _)⟩) (by decide) rfl rfl (Or.inl ⟨3, rfl, dL_noted_15, ?_⟩)
        refine e_iconst dL_noted_16 ?_
        refine e_iret dL_noted_17 rfl trivial (by decide) (by decide) ?_
        exact ⟨by rw [hk1], fun m hm => qf m (by omega), ⟨(qf 6 (by omega)).1.trans h6.1, (qf 6 (by omega)).2.1.trans h6.2⟩, Or.inr ⟨by omega, qR⟩⟩) (fun v h9 q => ?_)
  obtain ⟨qf, q0, qv, qR⟩ := QC_l q
  subst qv
  have g0 : zK h9 6 = 102 := (qf 6 (by omega)).1.trans h6.1
  have g1 : zN h9 6 = 1 := (qf 6 (by omega)).2.1.trans h6.2
  refine e_i2lw dL_noted_7 ?_
  refine e_last dL_noted_8 g0 (by decide) (by rw [g1]; decide) ?_
  refine e_goto (tgt := 18) dL_noted_9 (by decide) ?_
  refine e_iconst dL_noted_18 ?_
  refine e_iret dL_noted_19 rfl trivial (by decide) (by decide) ?_
  exact ⟨by rw [q0], fun m hm => eqAt_tr (qf m (by omega)) (eqAt_sm (by omega)), ⟨g0, g1⟩, Or.inl ⟨q0, zm_eq, RC_67 (fun m m6 m7 => eqAt_sm m6) qR⟩⟩
set_option maxHeartbeats 4000000 in
set_option maxRecDepth 100000 in
theorem c_L_meanBehind {l : Launch} (hl : l.stackTraces = false) {S : S9} {h : zH} {B : Int} (hR : RC S h) (hI : II S B) (h7 : zK h 7 = 103 ∧ zN h 7 = 1)  (hB9 : B ≤ 2000000000) : zCH l ML_meanBehind [zR (some 2), zR (some 7)] h (QD S h (if S 2 0 = 0 then 1 else 0) (dsh (sumB S (S 2 0)) (S 2 0)) S) := by
  have hc0 := c_X8_meanBehind hl hR hI 
  obtain ⟨kk, hkk⟩ : ∃ kk : Int, kk = (if S 2 0 = 0 then 1 else 0) := ⟨_, rfl⟩
  rw [← hkk] at hc0 ⊢
  refine zCH_of hl rfl (by decide) rfl rfl (Nat.le_of_ble_eq_true rfl) ?_
  refine e_aload_n dL_meanBehind_0 rfl rfl ?_
  refine e_iconst dL_meanBehind_1 ?_
  refine e_aload_n dL_meanBehind_2 rfl rfl ?_
  refine e_callV (As := []) (cb := 9) dL_meanBehind_3 moX8_meanBehind mvX8_meanBehind mlL_126 (by decide) rfl (show zK h 2 = 9 + 1 from hR.1.1.1) rfl (Nat.le_of_ble_eq_true rfl) ⟨by decide, by decide, by decide, by decide⟩ hc0 (fun E h9 q => by
      obtain ⟨qf, q0, qx, qR⟩ := QC_r q
      obtain ⟨e1, e2⟩ := xs1 qx
      subst e2
      have hk1 : kk = 1 := by omega
      refine AX_catch (from_ := 0) (to_ := 7) (hp := 10) (ct := 95) (j := 2) [] [] rfl ⟨by decide, by decide⟩ (by decide) exM_x clLh_95 (by decide +kernel) (List.forall_mem_nil _) (by decide) rfl rfl (Or.inl ⟨2, rfl, dL_meanBehind_10, ?_⟩)
      refine e_iconst dL_meanBehind_11 ?_
      refine e_iret dL_meanBehind_12 rfl trivial (by decide) (by decide) ?_
      exact ⟨by rw [hk1], fun m hm => qf m (by omega), ⟨(qf 7 (by omega)).1.trans h7.1, (qf 7 (by omega)).2.1.trans h7.2⟩, Or.inr ⟨by omega, qR⟩⟩) (fun v h9 q => ?_)
  obtain ⟨qf, q0, qv, qR⟩ := QC_l q
  subst qv
  have g0 : zK h9 7 = 103 := (qf 7 (by omega)).1.trans h7.1
  have g1 : zN h9 7 = 1 := (qf 7 (by omega)).2.1.trans h7.2
  refine e_dast dL_meanBehind_6 g0 (by decide) (by rw [g1]; decide) ?_
  refine e_goto (tgt := 13) dL_meanBehind_7 (by decide) ?_
  refine e_iconst dL_meanBehind_13 ?_
  refine e_iret dL_meanBehind_14 rfl trivial (by decide) (by decide) ?_
  exact ⟨by rw [q0], fun m hm => eqAt_tr (qf m (by omega)) (eqAt_sd (by omega)), ⟨g0, g1⟩, Or.inl ⟨q0, zd_eq, RC_67 (fun m m6 m7 => eqAt_sd m7) qR⟩⟩
theorem hoL_openSession : zHok ML_openSession 2 := ⟨mwL_openSession, by decide, by decide, by decide +kernel⟩
theorem hoL_openWindow : zHok ML_openWindow 7 := ⟨mwL_openWindow, by decide, by decide, by decide +kernel⟩
theorem hoL_closeWindow : zHok ML_closeWindow 4 := ⟨mwL_closeWindow, by decide, by decide, by decide +kernel⟩
theorem hoL_moveWindow : zHok ML_moveWindow 6 := ⟨mwL_moveWindow, by decide, by decide, by decide +kernel⟩
theorem hoL_raise : zHok ML_raise 4 := ⟨mwL_raise, by decide, by decide, by decide +kernel⟩
theorem hoL_show : zHok ML_show 5 := ⟨mwL_show, by decide, by decide, by decide +kernel⟩
theorem hoL_mark : zHok ML_mark 6 := ⟨mwL_mark, by decide, by decide, by decide +kernel⟩
theorem hoL_draw : zHok ML_draw 9 := ⟨mwL_draw, by decide, by decide, by decide +kernel⟩
theorem hoL_screen : zHok ML_screen 5 := ⟨mwL_screen, by decide, by decide, by decide +kernel⟩
theorem hoL_join : zHok ML_join 4 := ⟨mwL_join, by decide, by decide, by decide +kernel⟩
theorem hoL_bid : zHok ML_bid 4 := ⟨mwL_bid, by decide, by decide, by decide +kernel⟩
theorem hoL_money : zHok ML_money 3 := ⟨mwL_money, by decide, by decide, by decide +kernel⟩
theorem hoL_picture : zHok ML_picture 5 := ⟨mwL_picture, by decide, by decide, by decide +kernel⟩
theorem hoL_seen : zHok ML_seen 5 := ⟨mwL_seen, by decide, by decide, by decide +kernel⟩
theorem hoL_behind : zHok ML_behind 3 := ⟨mwL_behind, by decide, by decide, by decide +kernel⟩
theorem hoL_next : zHok ML_next 3 := ⟨mwL_next, by decide, by decide, by decide +kernel⟩
theorem hoL_nextCost : zHok ML_nextCost 3 := ⟨mwL_nextCost, by decide, by decide, by decide +kernel⟩
theorem hoL_tick : zHok ML_tick 3 := ⟨mwL_tick, by decide, by decide, by decide +kernel⟩
theorem hoL_type : zHok ML_type 4 := ⟨mwL_type, by decide, by decide, by decide +kernel⟩
theorem hoL_guesses : zHok ML_guesses 3 := ⟨mwL_guesses, by decide, by decide, by decide +kernel⟩
theorem hoL_rightShare : zHok ML_rightShare 3 := ⟨mwL_rightShare, by decide, by decide, by decide +kernel⟩
theorem hoL_copy : zHok ML_copy 5 := ⟨mwL_copy, by decide, by decide, by decide +kernel⟩
theorem hoL_allow : zHok ML_allow 6 := ⟨mwL_allow, by decide, by decide, by decide +kernel⟩
theorem hoL_paste : zHok ML_paste 4 := ⟨mwL_paste, by decide, by decide, by decide +kernel⟩
theorem hoL_move : zHok ML_move 3 := ⟨mwL_move, by decide, by decide, by decide +kernel⟩
theorem hoL_left : zHok ML_left 3 := ⟨mwL_left, by decide, by decide, by decide +kernel⟩
theorem hoL_host : zHok ML_host 3 := ⟨mwL_host, by decide, by decide, by decide +kernel⟩
theorem hoL_record : zHok ML_record 3 := ⟨mwL_record, by decide, by decide, by decide +kernel⟩
theorem hoL_played : zHok ML_played 6 := ⟨mwL_played, by decide, by decide, by decide +kernel⟩
theorem hoL_noted : zHok ML_noted 3 := ⟨mwL_noted, by decide, by decide, by decide +kernel⟩
theorem hoL_meanBehind : zHok ML_meanBehind 2 := ⟨mwL_meanBehind, by decide, by decide, by decide +kernel⟩
