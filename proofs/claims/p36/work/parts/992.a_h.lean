/-! the law's helpers -/
def lw1 (k v a : Int) : Int := if k = 0 then v else a
def lw2 (k v a b : Int) : Int := if k = 0 then v else if k = 1 then a else b
def lw3 (k v a b c : Int) : Int := if k = 0 then v else if k = 1 then a else if k = 2 then b else c
def lw4 (k v a b c d : Int) : Int := if k = 0 then v else if k = 1 then a else if k = 2 then b else if k = 3 then c else d
def QI (S : S9) (h : zH) (k w : Int) (S' : S9) : zO → zH → Prop := fun o h' => o = .inl (some (zI w)) ∧ (∀ m, (m = 6 ∨ m = 7 ∨ (99 ≤ m ∧ m ≤ 142)) → eqAt m h h') ∧ ((k = 0 ∧ RC S' h') ∨ (0 < k ∧ RC S h'))
theorem QI_inl {S S' : S9} {h h' : zH} {k w : Int} {E : String} (q : QI S h k w S' (.inr E) h') : False := by cases q.1
theorem lw1_0 {v a : Int} : lw1 0 v a = v := rfl
theorem lw1_1 {v a : Int} : lw1 1 v a = a := rfl
theorem lw2_0 {v a b : Int} : lw2 0 v a b = v := rfl
theorem lw2_1 {v a b : Int} : lw2 1 v a b = a := rfl
theorem lw2_2 {v a b : Int} : lw2 2 v a b = b := rfl
theorem lw3_0 {v a b c : Int} : lw3 0 v a b c = v := rfl
theorem lw3_1 {v a b c : Int} : lw3 1 v a b c = a := rfl
theorem lw3_2 {v a b c : Int} : lw3 2 v a b c = b := rfl
theorem lw3_3 {v a b c : Int} : lw3 3 v a b c = c := rfl
theorem lw4_0 {v a b c d : Int} : lw4 0 v a b c d = v := rfl
theorem lw4_1 {v a b c d : Int} : lw4 1 v a b c d = a := rfl
theorem lw4_2 {v a b c d : Int} : lw4 2 v a b c d = b := rfl
theorem lw4_3 {v a b c d : Int} : lw4 3 v a b c d = c := rfl
theorem lw4_4 {v a b c d : Int} : lw4 4 v a b c d = d := rfl
theorem clLh_26 : Cond.classLink RL 26 exI ∈ zT := zTm (by decide +kernel) rfl
theorem clLh_29 : Cond.classLink RL 29 exA ∈ zT := zTm (by decide +kernel) rfl
theorem clLh_19 : Cond.classLink RL 19 exS ∈ zT := zTm (by decide +kernel) rfl
theorem clLh_81 : Cond.classLink RL 81 exU ∈ zT := zTm (by decide +kernel) rfl
theorem clLh_68 : Cond.classLink RL 68 exN ∈ zT := zTm (by decide +kernel) rfl
theorem exI_x : exI ∈ zXs := by decide +kernel
theorem exA_x : exA ∈ zXs := by decide +kernel
theorem exS_x : exS ∈ zXs := by decide +kernel
theorem exU_x : exU ∈ zXs := by decide +kernel
theorem exN_x : exN ∈ zXs := by decide +kernel
theorem ctL_28 : Cond.constant RL 28 (Int32.ofInt (-2500000)) ∈ zT := zTm (by decide +kernel) rfl
theorem ctL_31 : Cond.constant RL 31 (Int32.ofInt (-2000000)) ∈ zT := zTm (by decide +kernel) rfl
theorem ctL_21 : Cond.constant RL 21 (Int32.ofInt (-1000000)) ∈ zT := zTm (by decide +kernel) rfl
theorem ctL_83 : Cond.constant RL 83 (Int32.ofInt (-1500000)) ∈ zT := zTm (by decide +kernel) rfl
theorem ctL_70 : Cond.constant RL 70 (Int32.ofInt (-3000000)) ∈ zT := zTm (by decide +kernel) rfl
set_option maxHeartbeats 4000000 in
set_option maxRecDepth 100000 in
theorem c_L_openSession {l : Launch} (hl : l.stackTraces = false) {S : S9} {h : zH} {B : Int} (hR : RC S h) (hI : II S B)  (kk : Int) (hkk : kk = (if S 1 0 = 4 then 1 else 0)) : zCH l ML_openSession [zR (some 2)] h (QI S h kk (lw1 kk (S 1 0) (-1000000)) (up S 1 0 (S 1 0 + 1))) := by
  have hc0 := c_X8_openSession hl hR hI 
  rw [← hkk] at hc0
  refine zCH_of hl rfl (by decide) rfl rfl (Nat.le_of_ble_eq_true rfl) ?_
  refine e_aload_n dL_openSession_0 rfl rfl ?_
  refine e_callV (As := []) (cb := 9) dL_openSession_1 moX8_openSession mvX8_openSession mlL_13 (by decide) rfl (show zK h 2 = 9 + 1 from hR.1.1.1) rfl (Nat.le_of_ble_eq_true rfl) ⟨by decide, by decide, by decide, by decide⟩ hc0 (fun E h9 q => by
      obtain ⟨qf, q0, qx, qR⟩ := QC_r q
      obtain ⟨e1, e2⟩ := xs1 qx
      subst e2
      have hk1 : kk = 1 := by omega
      refine AX_catch (from_ := 0) (to_ := 4) (hp := 5) (ct := 19) (j := 1) [] [] rfl ⟨by decide, by decide⟩ (by decide) exS_x clLh_19 (by decide +kernel) (List.forall_mem_nil _) (by decide) rfl rfl (Or.inl ⟨1, rfl, dL_openSession_5, ?_⟩)
      refine e_ldcI (z := -1000000) dL_openSession_6 ctL_21 ?_
      refine e_iret dL_openSession_8 rfl trivial (by decide) (by decide) ?_
      exact ⟨by rw [hk1, lw1_1], qf, Or.inr ⟨by omega, qR⟩⟩) (fun v9 h9 q => ?_)
  obtain ⟨qf, q0, qv, qR⟩ := QC_l q
  subst qv
  refine e_iret dL_openSession_4 rfl trivial (by decide) (by decide) ?_
  exact ⟨by rw [q0, lw1_0], qf, Or.inl ⟨q0, qR⟩⟩
set_option maxHeartbeats 4000000 in
set_option maxRecDepth 100000 in
theorem c_L_openWindow {l : Launch} (hl : l.stackTraces = false) {S : S9} {h : zH} {B : Int} (hR : RC S h) (hI : II S B) (s : Int) (hsz : zin s) (x : Int) (hxz : zin x) (y : Int) (hyz : zin y) (a : Int) (haz : zin a) (b : Int) (hbz : zin b) (kk : Int) (hkk : kk = (if ¬ isS S s then 1 else if ¬ ((-5 ≤ x ∧ x ≤ 11) ∧ (-5 ≤ y ∧ y ≤ 7) ∧ (1 ≤ a ∧ a ≤ 12) ∧ (1 ≤ b ∧ b ≤ 8)) then 2 else if S 4 s = 6 then 3 else 0)) : zCH l ML_openWindow [zR (some 2), zI s, zI x, zI y, zI a, zI b] h (QI S h kk (lw3 kk (S 4 s) (-2500000) (-2000000) (-1000000)) (opW S s x y a b)) := by
  have hc0 := c_X8_openWindow hl hR hI s hsz x hxz y hyz a haz b hbz
  rw [← hkk] at hc0
  refine zCH_of hl rfl (by decide) rfl rfl (Nat.le_of_ble_eq_true rfl) ?_
  refine e_aload_n dL_openWindow_0 rfl rfl ?_
  refine e_iload_n dL_openWindow_1 rfl rfl ?_
  refine e_iload_n dL_openWindow_2 rfl rfl ?_
  refine e_iload_n dL_openWindow_3 rfl rfl ?_
  refine e_iload dL_openWindow_4 rfl ?_
  refine e_iload dL_openWindow_6 rfl ?_
  refine e_callV (As := [zI _, zI _, zI _, zI _, zI _]) (cb := 9) dL_openWindow_8 moX8_openWindow mvX8_openWindow mlL_22 (by decide) rfl (show zK h 2 = 9 + 1 from hR.1.1.1) rfl (Nat.le_of_ble_eq_true rfl) ⟨by decide, by decide, by decide, by decide⟩ hc0 (fun E h9 q => by
      obtain ⟨qf, q0, qx, qR⟩ := QC_r q
      rcases xs3 qx with ⟨e1, e2⟩ | ⟨e1, e2⟩ | ⟨e1, e2⟩
      · subst e2
        have hk1 : kk = 1 := by omega
        refine AX_catch (from_ := 0) (to_ := 11) (hp := 12) (ct := 26) (j := 6) [] [(0, 11, 17, 29), (0, 11, 22, 19)] rfl ⟨by decide, by decide⟩ (by decide) exI_x clLh_26 (by decide +kernel) (List.forall_mem_nil _) (by decide) rfl rfl (Or.inr ⟨dL_openWindow_12, ?_⟩)
        refine e_ldcI (z := -2500000) dL_openWindow_14 ctL_28 ?_
        refine e_iret dL_openWindow_16 rfl trivial (by decide) (by decide) ?_
        exact ⟨by rw [hk1, lw3_1], qf, Or.inr ⟨by omega, qR⟩⟩
      · subst e2
        have hk1 : kk = 2 := by omega
        refine AX_catch (from_ := 0) (to_ := 11) (hp := 17) (ct := 29) (j := 6) [(0, 11, 12, 26)] [(0, 11, 22, 19)] rfl ⟨by decide, by decide⟩ (by decide) exA_x clLh_29 (by decide +kernel) (List.forall_mem_cons.mpr ⟨⟨by decide, exI, exI_x, by decide +kernel, clLh_26⟩, (List.forall_mem_nil _)⟩) (by decide) rfl rfl (Or.inr ⟨dL_openWindow_17, ?_⟩)
        refine e_ldcI (z := -2000000) dL_openWindow_19 ctL_31 ?_
        refine e_iret dL_openWindow_21 rfl trivial (by decide) (by decide) ?_
        exact ⟨by rw [hk1, lw3_2], qf, Or.inr ⟨by omega, qR⟩⟩
      · subst e2
        have hk1 : kk = 3 := by omega
        refine AX_catch (from_ := 0) (to_ := 11) (hp := 22) (ct := 19) (j := 6) [(0, 11, 12, 26), (0, 11, 17, 29)] [] rfl ⟨by decide, by decide⟩ (by decide) exS_x clLh_19 (by decide +kernel) (List.forall_mem_cons.mpr ⟨⟨by decide, exI, exI_x, by decide +kernel, clLh_26⟩, (List.forall_mem_cons.mpr ⟨⟨by decide, exA, exA_x, by decide +kernel, clLh_29⟩, (List.forall_mem_nil _)⟩)⟩) (by decide) rfl rfl (Or.inr ⟨dL_openWindow_22, ?_⟩)
        refine e_ldcI (z := -1000000) dL_openWindow_24 ctL_21 ?_
        refine e_iret dL_openWindow_26 rfl trivial (by decide) (by decide) ?_
        exact ⟨by rw [hk1, lw3_3], qf, Or.inr ⟨by omega, qR⟩⟩) (fun v9 h9 q => ?_)
  obtain ⟨qf, q0, qv, qR⟩ := QC_l q
  subst qv
  refine e_iret dL_openWindow_11 rfl trivial (by decide) (by decide) ?_
  exact ⟨by rw [q0, lw3_0], qf, Or.inl ⟨q0, qR⟩⟩
set_option maxHeartbeats 4000000 in
set_option maxRecDepth 100000 in
theorem c_L_moveWindow {l : Launch} (hl : l.stackTraces = false) {S : S9} {h : zH} {B : Int} (hR : RC S h) (hI : II S B) (s : Int) (hsz : zin s) (w : Int) (hwz : zin w) (x : Int) (hxz : zin x) (y : Int) (hyz : zin y) (kk : Int) (hkk : kk = (if ¬ isWn S s w then 1 else if ¬ ((-5 ≤ x ∧ x ≤ 11) ∧ (-5 ≤ y ∧ y ≤ 7)) then 2 else 0)) : zCH l ML_moveWindow [zR (some 2), zI s, zI w, zI x, zI y] h (QI S h kk (lw2 kk (movN S (movS S (6 * s + w) x y) s) (-2500000) (-2000000)) (movS S (6 * s + w) x y)) := by
  have hc0 := c_X8_moveWindow hl hR hI s hsz w hwz x hxz y hyz
  rw [← hkk] at hc0
  refine zCH_of hl rfl (by decide) rfl rfl (Nat.le_of_ble_eq_true rfl) ?_
  refine e_aload_n dL_moveWindow_0 rfl rfl ?_
  refine e_iload_n dL_moveWindow_1 rfl rfl ?_
  refine e_iload_n dL_moveWindow_2 rfl rfl ?_
  refine e_iload_n dL_moveWindow_3 rfl rfl ?_
  refine e_iload dL_moveWindow_4 rfl ?_
  refine e_callV (As := [zI _, zI _, zI _, zI _]) (cb := 9) dL_moveWindow_6 moX8_moveWindow mvX8_moveWindow mlL_32 (by decide) rfl (show zK h 2 = 9 + 1 from hR.1.1.1) rfl (Nat.le_of_ble_eq_true rfl) ⟨by decide, by decide, by decide, by decide⟩ hc0 (fun E h9 q => by
      obtain ⟨qf, q0, qx, qR⟩ := QC_r q
      rcases xs2 qx with ⟨e1, e2⟩ | ⟨e1, e2⟩
      · subst e2
        have hk1 : kk = 1 := by omega
        refine AX_catch (from_ := 0) (to_ := 9) (hp := 10) (ct := 26) (j := 5) [] [(0, 9, 15, 29)] rfl ⟨by decide, by decide⟩ (by decide) exI_x clLh_26 (by decide +kernel) (List.forall_mem_nil _) (by decide) rfl rfl (Or.inr ⟨dL_moveWindow_10, ?_⟩)
        refine e_ldcI (z := -2500000) dL_moveWindow_12 ctL_28 ?_
        refine e_iret dL_moveWindow_14 rfl trivial (by decide) (by decide) ?_
        exact ⟨by rw [hk1, lw2_1], qf, Or.inr ⟨by omega, qR⟩⟩
      · subst e2
        have hk1 : kk = 2 := by omega
        refine AX_catch (from_ := 0) (to_ := 9) (hp := 15) (ct := 29) (j := 5) [(0, 9, 10, 26)] [] rfl ⟨by decide, by decide⟩ (by decide) exA_x clLh_29 (by decide +kernel) (List.forall_mem_cons.mpr ⟨⟨by decide, exI, exI_x, by decide +kernel, clLh_26⟩, (List.forall_mem_nil _)⟩) (by decide) rfl rfl (Or.inr ⟨dL_moveWindow_15, ?_⟩)
        refine e_ldcI (z := -2000000) dL_moveWindow_17 ctL_31 ?_
        refine e_iret dL_moveWindow_19 rfl trivial (by decide) (by decide) ?_
        exact ⟨by rw [hk1, lw2_2], qf, Or.inr ⟨by omega, qR⟩⟩) (fun v9 h9 q => ?_)
  obtain ⟨qf, q0, qv, qR⟩ := QC_l q
  subst qv
  refine e_iret dL_moveWindow_9 rfl trivial (by decide) (by decide) ?_
  exact ⟨by rw [q0, lw2_0], qf, Or.inl ⟨q0, qR⟩⟩
set_option maxHeartbeats 4000000 in
set_option maxRecDepth 100000 in
theorem c_L_draw {l : Launch} (hl : l.stackTraces = false) {S : S9} {h : zH} {B : Int} (hR : RC S h) (hI : II S B) (s : Int) (hsz : zin s) (w : Int) (hwz : zin w) (x : Int) (hxz : zin x) (y : Int) (hyz : zin y) (a : Int) (haz : zin a) (b : Int) (hbz : zin b) (c : Int) (hcz : zin c) (kk : Int) (hkk : kk = (if ¬ isWn S s w then 1 else if ¬ (isXY x y ∧ (1 ≤ a ∧ a ≤ 12) ∧ (1 ≤ b ∧ b ≤ 8) ∧ (0 ≤ c ∧ c ≤ 255)) then 2 else 0)) : zCH l ML_draw [zR (some 2), zI s, zI w, zI x, zI y, zI a, zI b, zI c] h (QI S h kk (lw2 kk (drawN S (6 * s + w) x y a b c) (-2500000) (-2000000)) (drawS S (6 * s + w) x y a b c)) := by
  have hc0 := c_X8_draw hl hR hI s hsz w hwz x hxz y hyz a haz b hbz c hcz
  rw [← hkk] at hc0
  refine zCH_of hl rfl (by decide) rfl rfl (Nat.le_of_ble_eq_true rfl) ?_
  refine e_aload_n dL_draw_0 rfl rfl ?_
  refine e_iload_n dL_draw_1 rfl rfl ?_
  refine e_iload_n dL_draw_2 rfl rfl ?_
  refine e_iload_n dL_draw_3 rfl rfl ?_
  refine e_iload dL_draw_4 rfl ?_
  refine e_iload dL_draw_6 rfl ?_
  refine e_iload dL_draw_8 rfl ?_
  refine e_iload dL_draw_10 rfl ?_
  refine e_callV (As := [zI _, zI _, zI _, zI _, zI _, zI _, zI _]) (cb := 9) dL_draw_12 moX8_draw mvX8_draw mlL_36 (by decide) rfl (show zK h 2 = 9 + 1 from hR.1.1.1) rfl (Nat.le_of_ble_eq_true rfl) ⟨by decide, by decide, by decide, by decide⟩ hc0 (fun E h9 q => by
      obtain ⟨qf, q0, qx, qR⟩ := QC_r q
      rcases xs2 qx with ⟨e1, e2⟩ | ⟨e1, e2⟩
      · subst e2
        have hk1 : kk = 1 := by omega
        refine AX_catch (from_ := 0) (to_ := 15) (hp := 16) (ct := 26) (j := 8) [] [(0, 15, 21, 29)] rfl ⟨by decide, by decide⟩ (by decide) exI_x clLh_26 (by decide +kernel) (List.forall_mem_nil _) (by decide) rfl rfl (Or.inr ⟨dL_draw_16, ?_⟩)
        refine e_ldcI (z := -2500000) dL_draw_18 ctL_28 ?_
        refine e_iret dL_draw_20 rfl trivial (by decide) (by decide) ?_
        exact ⟨by rw [hk1, lw2_1], qf, Or.inr ⟨by omega, qR⟩⟩
      · subst e2
        have hk1 : kk = 2 := by omega
        refine AX_catch (from_ := 0) (to_ := 15) (hp := 21) (ct := 29) (j := 8) [(0, 15, 16, 26)] [] rfl ⟨by decide, by decide⟩ (by decide) exA_x clLh_29 (by decide +kernel) (List.forall_mem_cons.mpr ⟨⟨by decide, exI, exI_x, by decide +kernel, clLh_26⟩, (List.forall_mem_nil _)⟩) (by decide) rfl rfl (Or.inr ⟨dL_draw_21, ?_⟩)
        refine e_ldcI (z := -2000000) dL_draw_23 ctL_31 ?_
        refine e_iret dL_draw_25 rfl trivial (by decide) (by decide) ?_
        exact ⟨by rw [hk1, lw2_2], qf, Or.inr ⟨by omega, qR⟩⟩) (fun v9 h9 q => ?_)
  obtain ⟨qf, q0, qv, qR⟩ := QC_l q
  subst qv
  refine e_iret dL_draw_15 rfl trivial (by decide) (by decide) ?_
  exact ⟨by rw [q0, lw2_0], qf, Or.inl ⟨q0, qR⟩⟩
set_option maxHeartbeats 4000000 in
set_option maxRecDepth 100000 in
theorem c_L_screen {l : Launch} (hl : l.stackTraces = false) {S : S9} {h : zH} {B : Int} (hR : RC S h) (hI : II S B) (s : Int) (hsz : zin s) (x : Int) (hxz : zin x) (y : Int) (hyz : zin y) (kk : Int) (hkk : kk = (if ¬ (isS S s ∧ isXY x y) then 1 else 0)) : zCH l ML_screen [zR (some 2), zI s, zI x, zI y] h (QI S h kk (lw1 kk (screenAt S s (y * 12 + x)) (-2500000)) S) := by
  have hc0 := c_X8_screen hl hR hI s hsz x hxz y hyz
  rw [← hkk] at hc0
  refine zCH_of hl rfl (by decide) rfl rfl (Nat.le_of_ble_eq_true rfl) ?_
  refine e_aload_n dL_screen_0 rfl rfl ?_
  refine e_iload_n dL_screen_1 rfl rfl ?_
  refine e_iload_n dL_screen_2 rfl rfl ?_
  refine e_iload_n dL_screen_3 rfl rfl ?_
  refine e_callV (As := [zI _, zI _, zI _]) (cb := 9) dL_screen_4 moX8_screen mvX8_screen mlL_40 (by decide) rfl (show zK h 2 = 9 + 1 from hR.1.1.1) rfl (Nat.le_of_ble_eq_true rfl) ⟨by decide, by decide, by decide, by decide⟩ hc0 (fun E h9 q => by
      obtain ⟨qf, q0, qx, qR⟩ := QC_r q
      obtain ⟨e1, e2⟩ := xs1 qx
      subst e2
      have hk1 : kk = 1 := by omega
      refine AX_catch (from_ := 0) (to_ := 7) (hp := 8) (ct := 26) (j := 4) [] [] rfl ⟨by decide, by decide⟩ (by decide) exI_x clLh_26 (by decide +kernel) (List.forall_mem_nil _) (by decide) rfl rfl (Or.inr ⟨dL_screen_8, ?_⟩)
      refine e_ldcI (z := -2500000) dL_screen_10 ctL_28 ?_
      refine e_iret dL_screen_12 rfl trivial (by decide) (by decide) ?_
      exact ⟨by rw [hk1, lw1_1], qf, Or.inr ⟨by omega, qR⟩⟩) (fun v9 h9 q => ?_)
  obtain ⟨qf, q0, qv, qR⟩ := QC_l q
  subst qv
  refine e_iret dL_screen_7 rfl trivial (by decide) (by decide) ?_
  exact ⟨by rw [q0, lw1_0], qf, Or.inl ⟨q0, qR⟩⟩
set_option maxHeartbeats 4000000 in
set_option maxRecDepth 100000 in
theorem c_L_join {l : Launch} (hl : l.stackTraces = false) {S : S9} {h : zH} {B : Int} (hR : RC S h) (hI : II S B) (s : Int) (hsz : zin s) (b : Int) (hbz : zin b) (kk : Int) (hkk : kk = (if ¬ isS S s then 1 else if ¬ (0 ≤ b ∧ b ≤ 9) then 2 else if S 2 0 = 6 then 3 else 0)) : zCH l ML_join [zR (some 2), zI s, zI b] h (QI S h kk (lw3 kk (S 2 0) (-2500000) (-2000000) (-1000000)) (joinS S s b)) := by
  have hc0 := c_X8_join hl hR hI s hsz b hbz
  rw [← hkk] at hc0
  refine zCH_of hl rfl (by decide) rfl rfl (Nat.le_of_ble_eq_true rfl) ?_
  refine e_aload_n dL_join_0 rfl rfl ?_
  refine e_iload_n dL_join_1 rfl rfl ?_
  refine e_iload_n dL_join_2 rfl rfl ?_
  refine e_callV (As := [zI _, zI _]) (cb := 9) dL_join_3 moX8_join mvX8_join mlL_44 (by decide) rfl (show zK h 2 = 9 + 1 from hR.1.1.1) rfl (Nat.le_of_ble_eq_true rfl) ⟨by decide, by decide, by decide, by decide⟩ hc0 (fun E h9 q => by
      obtain ⟨qf, q0, qx, qR⟩ := QC_r q
      rcases xs3 qx with ⟨e1, e2⟩ | ⟨e1, e2⟩ | ⟨e1, e2⟩
      · subst e2
        have hk1 : kk = 1 := by omega
        refine AX_catch (from_ := 0) (to_ := 6) (hp := 7) (ct := 26) (j := 3) [] [(0, 6, 11, 29), (0, 6, 15, 19)] rfl ⟨by decide, by decide⟩ (by decide) exI_x clLh_26 (by decide +kernel) (List.forall_mem_nil _) (by decide) rfl rfl (Or.inl ⟨3, rfl, dL_join_7, ?_⟩)
        refine e_ldcI (z := -2500000) dL_join_8 ctL_28 ?_
        refine e_iret dL_join_10 rfl trivial (by decide) (by decide) ?_
        exact ⟨by rw [hk1, lw3_1], qf, Or.inr ⟨by omega, qR⟩⟩
      · subst e2
        have hk1 : kk = 2 := by omega
        refine AX_catch (from_ := 0) (to_ := 6) (hp := 11) (ct := 29) (j := 3) [(0, 6, 7, 26)] [(0, 6, 15, 19)] rfl ⟨by decide, by decide⟩ (by decide) exA_x clLh_29 (by decide +kernel) (List.forall_mem_cons.mpr ⟨⟨by decide, exI, exI_x, by decide +kernel, clLh_26⟩, (List.forall_mem_nil _)⟩) (by decide) rfl rfl (Or.inl ⟨3, rfl, dL_join_11, ?_⟩)
        refine e_ldcI (z := -2000000) dL_join_12 ctL_31 ?_
        refine e_iret dL_join_14 rfl trivial (by decide) (by decide) ?_
        exact ⟨by rw [hk1, lw3_2], qf, Or.inr ⟨by omega, qR⟩⟩
      · subst e2
        have hk1 : kk = 3 := by omega
        refine AX_catch (from_ := 0) (to_ := 6) (hp := 15) (ct := 19) (j := 3) [(0, 6, 7, 26), (0, 6, 11, 29)] [] rfl ⟨by decide, by decide⟩ (by decide) exS_x clLh_19 (by decide +kernel) (List.forall_mem_cons.mpr ⟨⟨by decide, exI, exI_x, by decide +kernel, clLh_26⟩, (List.forall_mem_cons.mpr ⟨⟨by decide, exA, exA_x, by decide +kernel, clLh_29⟩, (List.forall_mem_nil _)⟩)⟩) (by decide) rfl rfl (Or.inl ⟨3, rfl, dL_join_15, ?_⟩)
        refine e_ldcI (z := -1000000) dL_join_16 ctL_21 ?_
        refine e_iret dL_join_18 rfl trivial (by decide) (by decide) ?_
        exact ⟨by rw [hk1, lw3_3], qf, Or.inr ⟨by omega, qR⟩⟩) (fun v9 h9 q => ?_)
  obtain ⟨qf, q0, qv, qR⟩ := QC_l q
  subst qv
  refine e_iret dL_join_6 rfl trivial (by decide) (by decide) ?_
  exact ⟨by rw [q0, lw3_0], qf, Or.inl ⟨q0, qR⟩⟩
set_option maxHeartbeats 4000000 in
set_option maxRecDepth 100000 in
theorem c_L_bid {l : Launch} (hl : l.stackTraces = false) {S : S9} {h : zH} {B : Int} (hR : RC S h) (hI : II S B) (c : Int) (hcz : zin c) (b : Int) (hbz : zin b) (kk : Int) (hkk : kk = (if ¬ isC S c then 1 else if ¬ (0 ≤ b ∧ b ≤ 9) then 2 else 0)) : zCH l ML_bid [zR (some 2), zI c, zI b] h (QI S h kk (lw2 kk (S 36 c) (-2500000) (-2000000)) (up S 36 c b)) := by
  have hc0 := c_X8_bid hl hR hI c hcz b hbz
  rw [← hkk] at hc0
  refine zCH_of hl rfl (by decide) rfl rfl (Nat.le_of_ble_eq_true rfl) ?_
  refine e_aload_n dL_bid_0 rfl rfl ?_
  refine e_iload_n dL_bid_1 rfl rfl ?_
  refine e_iload_n dL_bid_2 rfl rfl ?_
  refine e_callV (As := [zI _, zI _]) (cb := 9) dL_bid_3 moX8_bid mvX8_bid mlL_48 (by decide) rfl (show zK h 2 = 9 + 1 from hR.1.1.1) rfl (Nat.le_of_ble_eq_true rfl) ⟨by decide, by decide, by decide, by decide⟩ hc0 (fun E h9 q => by
      obtain ⟨qf, q0, qx, qR⟩ := QC_r q
      rcases xs2 qx with ⟨e1, e2⟩ | ⟨e1, e2⟩
      · subst e2
        have hk1 : kk = 1 := by omega
        refine AX_catch (from_ := 0) (to_ := 6) (hp := 7) (ct := 26) (j := 3) [] [(0, 6, 11, 29)] rfl ⟨by decide, by decide⟩ (by decide) exI_x clLh_26 (by decide +kernel) (List.forall_mem_nil _) (by decide) rfl rfl (Or.inl ⟨3, rfl, dL_bid_7, ?_⟩)
        refine e_ldcI (z := -2500000) dL_bid_8 ctL_28 ?_
        refine e_iret dL_bid_10 rfl trivial (by decide) (by decide) ?_
        exact ⟨by rw [hk1, lw2_1], qf, Or.inr ⟨by omega, qR⟩⟩
      · subst e2
        have hk1 : kk = 2 := by omega
        refine AX_catch (from_ := 0) (to_ := 6) (hp := 11) (ct := 29) (j := 3) [(0, 6, 7, 26)] [] rfl ⟨by decide, by decide⟩ (by decide) exA_x clLh_29 (by decide +kernel) (List.forall_mem_cons.mpr ⟨⟨by decide, exI, exI_x, by decide +kernel, clLh_26⟩, (List.forall_mem_nil _)⟩) (by decide) rfl rfl (Or.inl ⟨3, rfl, dL_bid_11, ?_⟩)
        refine e_ldcI (z := -2000000) dL_bid_12 ctL_31 ?_
        refine e_iret dL_bid_14 rfl trivial (by decide) (by decide) ?_
        exact ⟨by rw [hk1, lw2_2], qf, Or.inr ⟨by omega, qR⟩⟩) (fun v9 h9 q => ?_)
  obtain ⟨qf, q0, qv, qR⟩ := QC_l q
  subst qv
  refine e_iret dL_bid_6 rfl trivial (by decide) (by decide) ?_
  exact ⟨by rw [q0, lw2_0], qf, Or.inl ⟨q0, qR⟩⟩
set_option maxHeartbeats 4000000 in
set_option maxRecDepth 100000 in
theorem c_L_money {l : Launch} (hl : l.stackTraces = false) {S : S9} {h : zH} {B : Int} (hR : RC S h) (hI : II S B) (c : Int) (hcz : zin c) (kk : Int) (hkk : kk = (if ¬ isC S c then 1 else 0)) : zCH l ML_money [zR (some 2), zI c] h (QI S h kk (lw1 kk (S 37 c) (-2500000)) S) := by
  have hc0 := c_X8_money hl hR hI c hcz
  rw [← hkk] at hc0
  refine zCH_of hl rfl (by decide) rfl rfl (Nat.le_of_ble_eq_true rfl) ?_
  refine e_aload_n dL_money_0 rfl rfl ?_
  refine e_iload_n dL_money_1 rfl rfl ?_
  refine e_callV (As := [zI _]) (cb := 9) dL_money_2 moX8_money mvX8_money mlL_51 (by decide) rfl (show zK h 2 = 9 + 1 from hR.1.1.1) rfl (Nat.le_of_ble_eq_true rfl) ⟨by decide, by decide, by decide, by decide⟩ hc0 (fun E h9 q => by
      obtain ⟨qf, q0, qx, qR⟩ := QC_r q
      obtain ⟨e1, e2⟩ := xs1 qx
      subst e2
      have hk1 : kk = 1 := by omega
      refine AX_catch (from_ := 0) (to_ := 5) (hp := 6) (ct := 26) (j := 2) [] [] rfl ⟨by decide, by decide⟩ (by decide) exI_x clLh_26 (by decide +kernel) (List.forall_mem_nil _) (by decide) rfl rfl (Or.inl ⟨2, rfl, dL_money_6, ?_⟩)
      refine e_ldcI (z := -2500000) dL_money_7 ctL_28 ?_
      refine e_iret dL_money_9 rfl trivial (by decide) (by decide) ?_
      exact ⟨by rw [hk1, lw1_1], qf, Or.inr ⟨by omega, qR⟩⟩) (fun v9 h9 q => ?_)
  obtain ⟨qf, q0, qv, qR⟩ := QC_l q
  subst qv
  refine e_iret dL_money_5 rfl trivial (by decide) (by decide) ?_
  exact ⟨by rw [q0, lw1_0], qf, Or.inl ⟨q0, qR⟩⟩
set_option maxHeartbeats 4000000 in
set_option maxRecDepth 100000 in
theorem c_L_picture {l : Launch} (hl : l.stackTraces = false) {S : S9} {h : zH} {B : Int} (hR : RC S h) (hI : II S B) (c : Int) (hcz : zin c) (x : Int) (hxz : zin x) (y : Int) (hyz : zin y) (kk : Int) (hkk : kk = (if ¬ (isC S c ∧ isXY x y) then 1 else 0)) : zCH l ML_picture [zR (some 2), zI c, zI x, zI y] h (QI S h kk (lw1 kk (S 40 (96 * c + (y * 12 + x))) (-2500000)) S) := by
  have hc0 := c_X8_picture hl hR hI c hcz x hxz y hyz
  rw [← hkk] at hc0
  refine zCH_of hl rfl (by decide) rfl rfl (Nat.le_of_ble_eq_true rfl) ?_
  refine e_aload_n dL_picture_0 rfl rfl ?_
  refine e_iload_n dL_picture_1 rfl rfl ?_
  refine e_iload_n dL_picture_2 rfl rfl ?_
  refine e_iload_n dL_picture_3 rfl rfl ?_
  refine e_callV (As := [zI _, zI _, zI _]) (cb := 9) dL_picture_4 moX8_picture mvX8_picture mlL_55 (by decide) rfl (show zK h 2 = 9 + 1 from hR.1.1.1) rfl (Nat.le_of_ble_eq_true rfl) ⟨by decide, by decide, by decide, by decide⟩ hc0 (fun E h9 q => by
      obtain ⟨qf, q0, qx, qR⟩ := QC_r q
      obtain ⟨e1, e2⟩ := xs1 qx
      subst e2
      have hk1 : kk = 1 := by omega
      refine AX_catch (from_ := 0) (to_ := 7) (hp := 8) (ct := 26) (j := 4) [] [] rfl ⟨by decide, by decide⟩ (by decide) exI_x clLh_26 (by decide +kernel) (List.forall_mem_nil _) (by decide) rfl rfl (Or.inr ⟨dL_picture_8, ?_⟩)
      refine e_ldcI (z := -2500000) dL_picture_10 ctL_28 ?_
      refine e_iret dL_picture_12 rfl trivial (by decide) (by decide) ?_
      exact ⟨by rw [hk1, lw1_1], qf, Or.inr ⟨by omega, qR⟩⟩) (fun v9 h9 q => ?_)
  obtain ⟨qf, q0, qv, qR⟩ := QC_l q
  subst qv
  refine e_iret dL_picture_7 rfl trivial (by decide) (by decide) ?_
  exact ⟨by rw [q0, lw1_0], qf, Or.inl ⟨q0, qR⟩⟩
set_option maxHeartbeats 4000000 in
set_option maxRecDepth 100000 in
theorem c_L_seen {l : Launch} (hl : l.stackTraces = false) {S : S9} {h : zH} {B : Int} (hR : RC S h) (hI : II S B) (c : Int) (hcz : zin c) (x : Int) (hxz : zin x) (y : Int) (hyz : zin y) (kk : Int) (hkk : kk = (if ¬ (isC S c ∧ isXY x y) then 1 else 0)) : zCH l ML_seen [zR (some 2), zI c, zI x, zI y] h (QI S h kk (lw1 kk (seen S c (y * 12 + x)) (-2500000)) S) := by
  have hc0 := c_X8_seen hl hR hI c hcz x hxz y hyz
  rw [← hkk] at hc0
  refine zCH_of hl rfl (by decide) rfl rfl (Nat.le_of_ble_eq_true rfl) ?_
  refine e_aload_n dL_seen_0 rfl rfl ?_
  refine e_iload_n dL_seen_1 rfl rfl ?_
  refine e_iload_n dL_seen_2 rfl rfl ?_
  refine e_iload_n dL_seen_3 rfl rfl ?_
  refine e_callV (As := [zI _, zI _, zI _]) (cb := 9) dL_seen_4 moX8_seen mvX8_seen mlL_58 (by decide) rfl (show zK h 2 = 9 + 1 from hR.1.1.1) rfl (Nat.le_of_ble_eq_true rfl) ⟨by decide, by decide, by decide, by decide⟩ hc0 (fun E h9 q => by
      obtain ⟨qf, q0, qx, qR⟩ := QC_r q
      obtain ⟨e1, e2⟩ := xs1 qx
      subst e2
      have hk1 : kk = 1 := by omega
      refine AX_catch (from_ := 0) (to_ := 7) (hp := 8) (ct := 26) (j := 4) [] [] rfl ⟨by decide, by decide⟩ (by decide) exI_x clLh_26 (by decide +kernel) (List.forall_mem_nil _) (by decide) rfl rfl (Or.inr ⟨dL_seen_8, ?_⟩)
      refine e_ldcI (z := -2500000) dL_seen_10 ctL_28 ?_
      refine e_iret dL_seen_12 rfl trivial (by decide) (by decide) ?_
      exact ⟨by rw [hk1, lw1_1], qf, Or.inr ⟨by omega, qR⟩⟩) (fun v9 h9 q => ?_)
  obtain ⟨qf, q0, qv, qR⟩ := QC_l q
  subst qv
  refine e_iret dL_seen_7 rfl trivial (by decide) (by decide) ?_
  exact ⟨by rw [q0, lw1_0], qf, Or.inl ⟨q0, qR⟩⟩
set_option maxHeartbeats 4000000 in
set_option maxRecDepth 100000 in
theorem c_L_behind {l : Launch} (hl : l.stackTraces = false) {S : S9} {h : zH} {B : Int} (hR : RC S h) (hI : II S B) (c : Int) (hcz : zin c) (kk : Int) (hkk : kk = (if ¬ isC S c then 1 else 0)) : zCH l ML_behind [zR (some 2), zI c] h (QI S h kk (lw1 kk (cntB S c) (-2500000)) S) := by
  have hc0 := c_X8_behind hl hR hI c hcz
  rw [← hkk] at hc0
  refine zCH_of hl rfl (by decide) rfl rfl (Nat.le_of_ble_eq_true rfl) ?_
  refine e_aload_n dL_behind_0 rfl rfl ?_
  refine e_iload_n dL_behind_1 rfl rfl ?_
  refine e_callV (As := [zI _]) (cb := 9) dL_behind_2 moX8_behind mvX8_behind mlL_61 (by decide) rfl (show zK h 2 = 9 + 1 from hR.1.1.1) rfl (Nat.le_of_ble_eq_true rfl) ⟨by decide, by decide, by decide, by decide⟩ hc0 (fun E h9 q => by
      obtain ⟨qf, q0, qx, qR⟩ := QC_r q
      obtain ⟨e1, e2⟩ := xs1 qx
      subst e2
      have hk1 : kk = 1 := by omega
      refine AX_catch (from_ := 0) (to_ := 5) (hp := 6) (ct := 26) (j := 2) [] [] rfl ⟨by decide, by decide⟩ (by decide) exI_x clLh_26 (by decide +kernel) (List.forall_mem_nil _) (by decide) rfl rfl (Or.inl ⟨2, rfl, dL_behind_6, ?_⟩)
      refine e_ldcI (z := -2500000) dL_behind_7 ctL_28 ?_
      refine e_iret dL_behind_9 rfl trivial (by decide) (by decide) ?_
      exact ⟨by rw [hk1, lw1_1], qf, Or.inr ⟨by omega, qR⟩⟩) (fun v9 h9 q => ?_)
  obtain ⟨qf, q0, qv, qR⟩ := QC_l q
  subst qv
  refine e_iret dL_behind_5 rfl trivial (by decide) (by decide) ?_
  exact ⟨by rw [q0, lw1_0], qf, Or.inl ⟨q0, qR⟩⟩
set_option maxHeartbeats 4000000 in
set_option maxRecDepth 100000 in
theorem c_L_next {l : Launch} (hl : l.stackTraces = false) {S : S9} {h : zH} {B : Int} (hR : RC S h) (hI : II S B) (c : Int) (hcz : zin c) (kk : Int) (hkk : kk = (if ¬ isC S c then 1 else if ¬ hasN S c then 2 else 0)) : zCH l ML_next [zR (some 2), zI c] h (QI S h kk (lw2 kk (bstC S c).1 (-2500000) (-3000000)) S) := by
  have hc0 := c_X8_next hl hR hI c hcz
  rw [← hkk] at hc0
  refine zCH_of hl rfl (by decide) rfl rfl (Nat.le_of_ble_eq_true rfl) ?_
  refine e_aload_n dL_next_0 rfl rfl ?_
  refine e_iload_n dL_next_1 rfl rfl ?_
  refine e_callV (As := [zI _]) (cb := 9) dL_next_2 moX8_next mvX8_next mlL_64 (by decide) rfl (show zK h 2 = 9 + 1 from hR.1.1.1) rfl (Nat.le_of_ble_eq_true rfl) ⟨by decide, by decide, by decide, by decide⟩ hc0 (fun E h9 q => by
      obtain ⟨qf, q0, qx, qR⟩ := QC_r q
      rcases xs2 qx with ⟨e1, e2⟩ | ⟨e1, e2⟩
      · subst e2
        have hk1 : kk = 1 := by omega
        refine AX_catch (from_ := 0) (to_ := 5) (hp := 6) (ct := 26) (j := 2) [] [(0, 5, 10, 68)] rfl ⟨by decide, by decide⟩ (by decide) exI_x clLh_26 (by decide +kernel) (List.forall_mem_nil _) (by decide) rfl rfl (Or.inl ⟨2, rfl, dL_next_6, ?_⟩)
        refine e_ldcI (z := -2500000) dL_next_7 ctL_28 ?_
        refine e_iret dL_next_9 rfl trivial (by decide) (by decide) ?_
        exact ⟨by rw [hk1, lw2_1], qf, Or.inr ⟨by omega, qR⟩⟩
      · subst e2
        have hk1 : kk = 2 := by omega
        refine AX_catch (from_ := 0) (to_ := 5) (hp := 10) (ct := 68) (j := 2) [(0, 5, 6, 26)] [] rfl ⟨by decide, by decide⟩ (by decide) exN_x clLh_68 (by decide +kernel) (List.forall_mem_cons.mpr ⟨⟨by decide, exI, exI_x, by decide +kernel, clLh_26⟩, (List.forall_mem_nil _)⟩) (by decide) rfl rfl (Or.inl ⟨2, rfl, dL_next_10, ?_⟩)
        refine e_ldcI (z := -3000000) dL_next_11 ctL_70 ?_
        refine e_iret dL_next_13 rfl trivial (by decide) (by decide) ?_
        exact ⟨by rw [hk1, lw2_2], qf, Or.inr ⟨by omega, qR⟩⟩) (fun v9 h9 q => ?_)
  obtain ⟨qf, q0, qv, qR⟩ := QC_l q
  subst qv
  refine e_iret dL_next_5 rfl trivial (by decide) (by decide) ?_
  exact ⟨by rw [q0, lw2_0], qf, Or.inl ⟨q0, qR⟩⟩
set_option maxHeartbeats 4000000 in
set_option maxRecDepth 100000 in
theorem c_L_nextCost {l : Launch} (hl : l.stackTraces = false) {S : S9} {h : zH} {B : Int} (hR : RC S h) (hI : II S B) (c : Int) (hcz : zin c) (kk : Int) (hkk : kk = (if ¬ isC S c then 1 else if ¬ hasN S c then 2 else 0)) : zCH l ML_nextCost [zR (some 2), zI c] h (QI S h kk (lw2 kk (bstC S c).2.1 (-2500000) (-3000000)) S) := by
  have hc0 := c_X8_nextCost hl hR hI c hcz
  rw [← hkk] at hc0
  refine zCH_of hl rfl (by decide) rfl rfl (Nat.le_of_ble_eq_true rfl) ?_
  refine e_aload_n dL_nextCost_0 rfl rfl ?_
  refine e_iload_n dL_nextCost_1 rfl rfl ?_
  refine e_callV (As := [zI _]) (cb := 9) dL_nextCost_2 moX8_nextCost mvX8_nextCost mlL_71 (by decide) rfl (show zK h 2 = 9 + 1 from hR.1.1.1) rfl (Nat.le_of_ble_eq_true rfl) ⟨by decide, by decide, by decide, by decide⟩ hc0 (fun E h9 q => by
      obtain ⟨qf, q0, qx, qR⟩ := QC_r q
      rcases xs2 qx with ⟨e1, e2⟩ | ⟨e1, e2⟩
      · subst e2
        have hk1 : kk = 1 := by omega
        refine AX_catch (from_ := 0) (to_ := 5) (hp := 6) (ct := 26) (j := 2) [] [(0, 5, 10, 68)] rfl ⟨by decide, by decide⟩ (by decide) exI_x clLh_26 (by decide +kernel) (List.forall_mem_nil _) (by decide) rfl rfl (Or.inl ⟨2, rfl, dL_nextCost_6, ?_⟩)
        refine e_ldcI (z := -2500000) dL_nextCost_7 ctL_28 ?_
        refine e_iret dL_nextCost_9 rfl trivial (by decide) (by decide) ?_
        exact ⟨by rw [hk1, lw2_1], qf, Or.inr ⟨by omega, qR⟩⟩
      · subst e2
        have hk1 : kk = 2 := by omega
        refine AX_catch (from_ := 0) (to_ := 5) (hp := 10) (ct := 68) (j := 2) [(0, 5, 6, 26)] [] rfl ⟨by decide, by decide⟩ (by decide) exN_x clLh_68 (by decide +kernel) (List.forall_mem_cons.mpr ⟨⟨by decide, exI, exI_x, by decide +kernel, clLh_26⟩, (List.forall_mem_nil _)⟩) (by decide) rfl rfl (Or.inl ⟨2, rfl, dL_nextCost_10, ?_⟩)
        refine e_ldcI (z := -3000000) dL_nextCost_11 ctL_70 ?_
        refine e_iret dL_nextCost_13 rfl trivial (by decide) (by decide) ?_
        exact ⟨by rw [hk1, lw2_2], qf, Or.inr ⟨by omega, qR⟩⟩) (fun v9 h9 q => ?_)
  obtain ⟨qf, q0, qv, qR⟩ := QC_l q
  subst qv
  refine e_iret dL_nextCost_5 rfl trivial (by decide) (by decide) ?_
  exact ⟨by rw [q0, lw2_0], qf, Or.inl ⟨q0, qR⟩⟩
set_option maxHeartbeats 4000000 in
set_option maxRecDepth 100000 in
theorem c_L_tick {l : Launch} (hl : l.stackTraces = false) {S : S9} {h : zH} {B : Int} (hR : RC S h) (hI : II S B) (t : Int) (htz : zin t) (hB0 : 0 ≤ B ∧ B ≤ 800000000) (kk : Int) (hkk : kk = (if ¬ (1 ≤ t ∧ t ≤ 20) then 1 else 0)) : zCH l ML_tick [zR (some 2), zI t] h (QI S h kk (lw1 kk (tikV S t.toNat) (-2000000)) (tikS S t)) := by
  have hc0 := c_X8_tick hl hR hI t htz hB0
  rw [← hkk] at hc0
  refine zCH_of hl rfl (by decide) rfl rfl (Nat.le_of_ble_eq_true rfl) ?_
  refine e_aload_n dL_tick_0 rfl rfl ?_
  refine e_iload_n dL_tick_1 rfl rfl ?_
  refine e_callV (As := [zI _]) (cb := 9) dL_tick_2 moX8_tick mvX8_tick mlL_74 (by decide) rfl (show zK h 2 = 9 + 1 from hR.1.1.1) rfl (Nat.le_of_ble_eq_true rfl) ⟨by decide, by decide, by decide, by decide⟩ hc0 (fun E h9 q => by
      obtain ⟨qf, q0, qx, qR⟩ := QC_r q
      obtain ⟨e1, e2⟩ := xs1 qx
      subst e2
      have hk1 : kk = 1 := by omega
      refine AX_catch (from_ := 0) (to_ := 5) (hp := 6) (ct := 29) (j := 2) [] [] rfl ⟨by decide, by decide⟩ (by decide) exA_x clLh_29 (by decide +kernel) (List.forall_mem_nil _) (by decide) rfl rfl (Or.inl ⟨2, rfl, dL_tick_6, ?_⟩)
      refine e_ldcI (z := -2000000) dL_tick_7 ctL_31 ?_
      refine e_iret dL_tick_9 rfl trivial (by decide) (by decide) ?_
      exact ⟨by rw [hk1, lw1_1], qf, Or.inr ⟨by omega, qR⟩⟩) (fun v9 h9 q => ?_)
  obtain ⟨qf, q0, qv, qR⟩ := QC_l q
  subst qv
  refine e_iret dL_tick_5 rfl trivial (by decide) (by decide) ?_
  exact ⟨by rw [q0, lw1_0], qf, Or.inl ⟨q0, qR⟩⟩
set_option maxHeartbeats 4000000 in
set_option maxRecDepth 100000 in
theorem c_L_type {l : Launch} (hl : l.stackTraces = false) {S : S9} {h : zH} {B : Int} (hR : RC S h) (hI : II S B) (hG : GMore l) (c : Int) (hcz : zin c) (t : Int) (ht0 : 0 ≤ t ∧ t < 65536) (kk : Int) (hkk : kk = (if ¬ isC S c then 1 else if t < 97 ∨ 122 < t then 2 else if topOf S (S 35 c) < 0 then 3 else if S 17 (S 35 c) = 20 then 4 else 0)) : zCH l ML_type [zR (some 2), zI c, zI t] h (QI S h kk (lw4 kk (S 17 (S 35 c) + 1) (-2500000) (-2000000) (-1500000) (-1000000)) (typS S c t)) := by
  have hc0 := c_X8_type hl hR hI hG c hcz t ht0
  rw [← hkk] at hc0
  refine zCH_of hl rfl (by decide) rfl rfl (Nat.le_of_ble_eq_true rfl) ?_
  refine e_aload_n dL_type_0 rfl rfl ?_
  refine e_iload_n dL_type_1 rfl rfl ?_
  refine e_iload_n dL_type_2 rfl rfl ?_
  refine e_callV (As := [zI _, zI _]) (cb := 9) dL_type_3 moX8_type mvX8_type mlL_77 (by decide) rfl (show zK h 2 = 9 + 1 from hR.1.1.1) rfl (Nat.le_of_ble_eq_true rfl) ⟨by decide, by decide, by decide, by decide⟩ hc0 (fun E h9 q => by
      obtain ⟨qf, q0, qx, qR⟩ := QC_r q
      rcases xs4 qx with ⟨e1, e2⟩ | ⟨e1, e2⟩ | ⟨e1, e2⟩ | ⟨e1, e2⟩
      · subst e2
        have hk1 : kk = 1 := by omega
        refine AX_catch (from_ := 0) (to_ := 6) (hp := 7) (ct := 26) (j := 3) [] [(0, 6, 11, 29), (0, 6, 15, 81), (0, 6, 19, 19)] rfl ⟨by decide, by decide⟩ (by decide) exI_x clLh_26 (by decide +kernel) (List.forall_mem_nil _) (by decide) rfl rfl (Or.inl ⟨3, rfl, dL_type_7, ?_⟩)
        refine e_ldcI (z := -2500000) dL_type_8 ctL_28 ?_
        refine e_iret dL_type_10 rfl trivial (by decide) (by decide) ?_
        exact ⟨by rw [hk1, lw4_1], qf, Or.inr ⟨by omega, qR⟩⟩
      · subst e2
        have hk1 : kk = 2 := by omega
        refine AX_catch (from_ := 0) (to_ := 6) (hp := 11) (ct := 29) (j := 3) [(0, 6, 7, 26)] [(0, 6, 15, 81), (0, 6, 19, 19)] rfl ⟨by decide, by decide⟩ (by decide) exA_x clLh_29 (by decide +kernel) (List.forall_mem_cons.mpr ⟨⟨by decide, exI, exI_x, by decide +kernel, clLh_26⟩, (List.forall_mem_nil _)⟩) (by decide) rfl rfl (Or.inl ⟨3, rfl, dL_type_11, ?_⟩)
        refine e_ldcI (z := -2000000) dL_type_12 ctL_31 ?_
        refine e_iret dL_type_14 rfl trivial (by decide) (by decide) ?_
        exact ⟨by rw [hk1, lw4_2], qf, Or.inr ⟨by omega, qR⟩⟩
      · subst e2
        have hk1 : kk = 3 := by omega
        refine AX_catch (from_ := 0) (to_ := 6) (hp := 15) (ct := 81) (j := 3) [(0, 6, 7, 26), (0, 6, 11, 29)] [(0, 6, 19, 19)] rfl ⟨by decide, by decide⟩ (by decide) exU_x clLh_81 (by decide +kernel) (List.forall_mem_cons.mpr ⟨⟨by decide, exI, exI_x, by decide +kernel, clLh_26⟩, (List.forall_mem_cons.mpr ⟨⟨by decide, exA, exA_x, by decide +kernel, clLh_29⟩, (List.forall_mem_nil _)⟩)⟩) (by decide) rfl rfl (Or.inl ⟨3, rfl, dL_type_15, ?_⟩)
        refine e_ldcI (z := -1500000) dL_type_16 ctL_83 ?_
        refine e_iret dL_type_18 rfl trivial (by decide) (by decide) ?_
        exact ⟨by rw [hk1, lw4_3], qf, Or.inr ⟨by omega, qR⟩⟩
      · subst e2
        have hk1 : kk = 4 := by omega
        refine AX_catch (from_ := 0) (to_ := 6) (hp := 19) (ct := 19) (j := 3) [(0, 6, 7, 26), (0, 6, 11, 29), (0, 6, 15, 81)] [] rfl ⟨by decide, by decide⟩ (by decide) exS_x clLh_19 (by decide +kernel) (List.forall_mem_cons.mpr ⟨⟨by decide, exI, exI_x, by decide +kernel, clLh_26⟩, (List.forall_mem_cons.mpr ⟨⟨by decide, exA, exA_x, by decide +kernel, clLh_29⟩, (List.forall_mem_cons.mpr ⟨⟨by decide, exU, exU_x, by decide +kernel, clLh_81⟩, (List.forall_mem_nil _)⟩)⟩)⟩) (by decide) rfl rfl (Or.inl ⟨3, rfl, dL_type_19, ?_⟩)
        refine e_ldcI (z := -1000000) dL_type_20 ctL_21 ?_
        refine e_iret dL_type_22 rfl trivial (by decide) (by decide) ?_
        exact ⟨by rw [hk1, lw4_4], qf, Or.inr ⟨by omega, qR⟩⟩) (fun v9 h9 q => ?_)
  obtain ⟨qf, q0, qv, qR⟩ := QC_l q
  subst qv
  refine e_iret dL_type_6 rfl trivial (by decide) (by decide) ?_
  exact ⟨by rw [q0, lw4_0], qf, Or.inl ⟨q0, qR⟩⟩
set_option maxHeartbeats 4000000 in
set_option maxRecDepth 100000 in
theorem c_L_guesses {l : Launch} (hl : l.stackTraces = false) {S : S9} {h : zH} {B : Int} (hR : RC S h) (hI : II S B) (c : Int) (hcz : zin c) (kk : Int) (hkk : kk = (if ¬ isC S c then 1 else 0)) : zCH l ML_guesses [zR (some 2), zI c] h (QI S h kk (lw1 kk (gues S c) (-2500000)) S) := by
  have hc0 := c_X8_guesses hl hR hI c hcz
  rw [← hkk] at hc0
  refine zCH_of hl rfl (by decide) rfl rfl (Nat.le_of_ble_eq_true rfl) ?_
  refine e_aload_n dL_guesses_0 rfl rfl ?_
  refine e_iload_n dL_guesses_1 rfl rfl ?_
  refine e_callV (As := [zI _]) (cb := 9) dL_guesses_2 moX8_guesses mvX8_guesses mlL_84 (by decide) rfl (show zK h 2 = 9 + 1 from hR.1.1.1) rfl (Nat.le_of_ble_eq_true rfl) ⟨by decide, by decide, by decide, by decide⟩ hc0 (fun E h9 q => by
      obtain ⟨qf, q0, qx, qR⟩ := QC_r q
      obtain ⟨e1, e2⟩ := xs1 qx
      subst e2
      have hk1 : kk = 1 := by omega
      refine AX_catch (from_ := 0) (to_ := 5) (hp := 6) (ct := 26) (j := 2) [] [] rfl ⟨by decide, by decide⟩ (by decide) exI_x clLh_26 (by decide +kernel) (List.forall_mem_nil _) (by decide) rfl rfl (Or.inl ⟨2, rfl, dL_guesses_6, ?_⟩)
      refine e_ldcI (z := -2500000) dL_guesses_7 ctL_28 ?_
      refine e_iret dL_guesses_9 rfl trivial (by decide) (by decide) ?_
      exact ⟨by rw [hk1, lw1_1], qf, Or.inr ⟨by omega, qR⟩⟩) (fun v9 h9 q => ?_)
  obtain ⟨qf, q0, qv, qR⟩ := QC_l q
  subst qv
  refine e_iret dL_guesses_5 rfl trivial (by decide) (by decide) ?_
  exact ⟨by rw [q0, lw1_0], qf, Or.inl ⟨q0, qR⟩⟩
set_option maxHeartbeats 4000000 in
set_option maxRecDepth 100000 in
theorem c_L_copy {l : Launch} (hl : l.stackTraces = false) {S : S9} {h : zH} {B : Int} (hR : RC S h) (hI : II S B) (s : Int) (hsz : zin s) (t : Int) (htz : zin t) (v : Int) (hvz : zin v) (kk : Int) (hkk : kk = (if ¬ isS S s then 1 else if ¬ ((0 ≤ t ∧ t ≤ 2) ∧ (0 ≤ v ∧ v ≤ 9999)) then 2 else 0)) : zCH l ML_copy [zR (some 2), zI s, zI t, zI v] h (QI S h kk (lw2 kk (if S 22 s = 0 then -1 else S 23 s) (-2500000) (-2000000)) (copS S s t v)) := by
  have hc0 := c_X8_copy hl hR hI s hsz t htz v hvz
  rw [← hkk] at hc0
  refine zCH_of hl rfl (by decide) rfl rfl (Nat.le_of_ble_eq_true rfl) ?_
  refine e_aload_n dL_copy_0 rfl rfl ?_
  refine e_iload_n dL_copy_1 rfl rfl ?_
  refine e_iload_n dL_copy_2 rfl rfl ?_
  refine e_iload_n dL_copy_3 rfl rfl ?_
  refine e_callV (As := [zI _, zI _, zI _]) (cb := 9) dL_copy_4 moX8_copy mvX8_copy mlL_87 (by decide) rfl (show zK h 2 = 9 + 1 from hR.1.1.1) rfl (Nat.le_of_ble_eq_true rfl) ⟨by decide, by decide, by decide, by decide⟩ hc0 (fun E h9 q => by
      obtain ⟨qf, q0, qx, qR⟩ := QC_r q
      rcases xs2 qx with ⟨e1, e2⟩ | ⟨e1, e2⟩
      · subst e2
        have hk1 : kk = 1 := by omega
        refine AX_catch (from_ := 0) (to_ := 7) (hp := 8) (ct := 26) (j := 4) [] [(0, 7, 13, 29)] rfl ⟨by decide, by decide⟩ (by decide) exI_x clLh_26 (by decide +kernel) (List.forall_mem_nil _) (by decide) rfl rfl (Or.inr ⟨dL_copy_8, ?_⟩)
        refine e_ldcI (z := -2500000) dL_copy_10 ctL_28 ?_
        refine e_iret dL_copy_12 rfl trivial (by decide) (by decide) ?_
        exact ⟨by rw [hk1, lw2_1], qf, Or.inr ⟨by omega, qR⟩⟩
      · subst e2
        have hk1 : kk = 2 := by omega
        refine AX_catch (from_ := 0) (to_ := 7) (hp := 13) (ct := 29) (j := 4) [(0, 7, 8, 26)] [] rfl ⟨by decide, by decide⟩ (by decide) exA_x clLh_29 (by decide +kernel) (List.forall_mem_cons.mpr ⟨⟨by decide, exI, exI_x, by decide +kernel, clLh_26⟩, (List.forall_mem_nil _)⟩) (by decide) rfl rfl (Or.inr ⟨dL_copy_13, ?_⟩)
        refine e_ldcI (z := -2000000) dL_copy_15 ctL_31 ?_
        refine e_iret dL_copy_17 rfl trivial (by decide) (by decide) ?_
        exact ⟨by rw [hk1, lw2_2], qf, Or.inr ⟨by omega, qR⟩⟩) (fun v9 h9 q => ?_)
  obtain ⟨qf, q0, qv, qR⟩ := QC_l q
  subst qv
  refine e_iret dL_copy_7 rfl trivial (by decide) (by decide) ?_
  exact ⟨by rw [q0, lw2_0], qf, Or.inl ⟨q0, qR⟩⟩
set_option maxHeartbeats 4000000 in
set_option maxRecDepth 100000 in
theorem c_L_paste {l : Launch} (hl : l.stackTraces = false) {S : S9} {h : zH} {B : Int} (hR : RC S h) (hI : II S B) (a : Int) (haz : zin a) (b : Int) (hbz : zin b) (kk : Int) (hkk : kk = (if ¬ (isS S a ∧ isS S b) ∨ a = b then 1 else if S 22 a = 0 then 2 else if mayN S a b 4 = 0 then 3 else 0)) : zCH l ML_paste [zR (some 2), zI a, zI b] h (QI S h kk (lw3 kk (S 23 a) (-2500000) (-3000000) (-1500000)) (pasS S a b)) := by
  have hc0 := c_X8_paste hl hR hI a haz b hbz
  rw [← hkk] at hc0
  refine zCH_of hl rfl (by decide) rfl rfl (Nat.le_of_ble_eq_true rfl) ?_
  refine e_aload_n dL_paste_0 rfl rfl ?_
  refine e_iload_n dL_paste_1 rfl rfl ?_
  refine e_iload_n dL_paste_2 rfl rfl ?_
  refine e_callV (As := [zI _, zI _]) (cb := 9) dL_paste_3 moX8_paste mvX8_paste mlL_90 (by decide) rfl (show zK h 2 = 9 + 1 from hR.1.1.1) rfl (Nat.le_of_ble_eq_true rfl) ⟨by decide, by decide, by decide, by decide⟩ hc0 (fun E h9 q => by
      obtain ⟨qf, q0, qx, qR⟩ := QC_r q
      rcases xs3 qx with ⟨e1, e2⟩ | ⟨e1, e2⟩ | ⟨e1, e2⟩
      · subst e2
        have hk1 : kk = 1 := by omega
        refine AX_catch (from_ := 0) (to_ := 6) (hp := 7) (ct := 26) (j := 3) [] [(0, 6, 11, 68), (0, 6, 15, 81)] rfl ⟨by decide, by decide⟩ (by decide) exI_x clLh_26 (by decide +kernel) (List.forall_mem_nil _) (by decide) rfl rfl (Or.inl ⟨3, rfl, dL_paste_7, ?_⟩)
        refine e_ldcI (z := -2500000) dL_paste_8 ctL_28 ?_
        refine e_iret dL_paste_10 rfl trivial (by decide) (by decide) ?_
        exact ⟨by rw [hk1, lw3_1], qf, Or.inr ⟨by omega, qR⟩⟩
      · subst e2
        have hk1 : kk = 2 := by omega
        refine AX_catch (from_ := 0) (to_ := 6) (hp := 11) (ct := 68) (j := 3) [(0, 6, 7, 26)] [(0, 6, 15, 81)] rfl ⟨by decide, by decide⟩ (by decide) exN_x clLh_68 (by decide +kernel) (List.forall_mem_cons.mpr ⟨⟨by decide, exI, exI_x, by decide +kernel, clLh_26⟩, (List.forall_mem_nil _)⟩) (by decide) rfl rfl (Or.inl ⟨3, rfl, dL_paste_11, ?_⟩)
        refine e_ldcI (z := -3000000) dL_paste_12 ctL_70 ?_
        refine e_iret dL_paste_14 rfl trivial (by decide) (by decide) ?_
        exact ⟨by rw [hk1, lw3_2], qf, Or.inr ⟨by omega, qR⟩⟩
      · subst e2
        have hk1 : kk = 3 := by omega
        refine AX_catch (from_ := 0) (to_ := 6) (hp := 15) (ct := 81) (j := 3) [(0, 6, 7, 26), (0, 6, 11, 68)] [] rfl ⟨by decide, by decide⟩ (by decide) exU_x clLh_81 (by decide +kernel) (List.forall_mem_cons.mpr ⟨⟨by decide, exI, exI_x, by decide +kernel, clLh_26⟩, (List.forall_mem_cons.mpr ⟨⟨by decide, exN, exN_x, by decide +kernel, clLh_68⟩, (List.forall_mem_nil _)⟩)⟩) (by decide) rfl rfl (Or.inl ⟨3, rfl, dL_paste_15, ?_⟩)
        refine e_ldcI (z := -1500000) dL_paste_16 ctL_83 ?_
        refine e_iret dL_paste_18 rfl trivial (by decide) (by decide) ?_
        exact ⟨by rw [hk1, lw3_3], qf, Or.inr ⟨by omega, qR⟩⟩) (fun v9 h9 q => ?_)
  obtain ⟨qf, q0, qv, qR⟩ := QC_l q
  subst qv
  refine e_iret dL_paste_6 rfl trivial (by decide) (by decide) ?_
  exact ⟨by rw [q0, lw3_0], qf, Or.inl ⟨q0, qR⟩⟩
set_option maxHeartbeats 4000000 in
set_option maxRecDepth 100000 in
theorem c_L_left {l : Launch} (hl : l.stackTraces = false) {S : S9} {h : zH} {B : Int} (hR : RC S h) (hI : II S B) (s : Int) (hsz : zin s) (kk : Int) (hkk : kk = (if ¬ isS S s then 1 else if ¬ S 26 s = 1 then 2 else 0)) : zCH l ML_left [zR (some 2), zI s] h (QI S h kk (lw2 kk (cntL S s) (-2500000) (-1000000)) S) := by
  have hc0 := c_X8_left hl hR hI s hsz
  rw [← hkk] at hc0
  refine zCH_of hl rfl (by decide) rfl rfl (Nat.le_of_ble_eq_true rfl) ?_
  refine e_aload_n dL_left_0 rfl rfl ?_
  refine e_iload_n dL_left_1 rfl rfl ?_
  refine e_callV (As := [zI _]) (cb := 9) dL_left_2 moX8_left mvX8_left mlL_93 (by decide) rfl (show zK h 2 = 9 + 1 from hR.1.1.1) rfl (Nat.le_of_ble_eq_true rfl) ⟨by decide, by decide, by decide, by decide⟩ hc0 (fun E h9 q => by
      obtain ⟨qf, q0, qx, qR⟩ := QC_r q
      rcases xs2 qx with ⟨e1, e2⟩ | ⟨e1, e2⟩
      · subst e2
        have hk1 : kk = 1 := by omega
        refine AX_catch (from_ := 0) (to_ := 5) (hp := 6) (ct := 26) (j := 2) [] [(0, 5, 10, 19)] rfl ⟨by decide, by decide⟩ (by decide) exI_x clLh_26 (by decide +kernel) (List.forall_mem_nil _) (by decide) rfl rfl (Or.inl ⟨2, rfl, dL_left_6, ?_⟩)
        refine e_ldcI (z := -2500000) dL_left_7 ctL_28 ?_
        refine e_iret dL_left_9 rfl trivial (by decide) (by decide) ?_
        exact ⟨by rw [hk1, lw2_1], qf, Or.inr ⟨by omega, qR⟩⟩
      · subst e2
        have hk1 : kk = 2 := by omega
        refine AX_catch (from_ := 0) (to_ := 5) (hp := 10) (ct := 19) (j := 2) [(0, 5, 6, 26)] [] rfl ⟨by decide, by decide⟩ (by decide) exS_x clLh_19 (by decide +kernel) (List.forall_mem_cons.mpr ⟨⟨by decide, exI, exI_x, by decide +kernel, clLh_26⟩, (List.forall_mem_nil _)⟩) (by decide) rfl rfl (Or.inl ⟨2, rfl, dL_left_10, ?_⟩)
        refine e_ldcI (z := -1000000) dL_left_11 ctL_21 ?_
        refine e_iret dL_left_13 rfl trivial (by decide) (by decide) ?_
        exact ⟨by rw [hk1, lw2_2], qf, Or.inr ⟨by omega, qR⟩⟩) (fun v9 h9 q => ?_)
  obtain ⟨qf, q0, qv, qR⟩ := QC_l q
  subst qv
  refine e_iret dL_left_5 rfl trivial (by decide) (by decide) ?_
  exact ⟨by rw [q0, lw2_0], qf, Or.inl ⟨q0, qR⟩⟩
set_option maxHeartbeats 4000000 in
set_option maxRecDepth 100000 in
theorem c_L_host {l : Launch} (hl : l.stackTraces = false) {S : S9} {h : zH} {B : Int} (hR : RC S h) (hI : II S B) (s : Int) (hsz : zin s) (kk : Int) (hkk : kk = (if ¬ isS S s then 1 else 0)) : zCH l ML_host [zR (some 2), zI s] h (QI S h kk (lw1 kk (S 28 s) (-2500000)) S) := by
  have hc0 := c_X8_host hl hR hI s hsz
  rw [← hkk] at hc0
  refine zCH_of hl rfl (by decide) rfl rfl (Nat.le_of_ble_eq_true rfl) ?_
  refine e_aload_n dL_host_0 rfl rfl ?_
  refine e_iload_n dL_host_1 rfl rfl ?_
  refine e_callV (As := [zI _]) (cb := 9) dL_host_2 moX8_host mvX8_host mlL_96 (by decide) rfl (show zK h 2 = 9 + 1 from hR.1.1.1) rfl (Nat.le_of_ble_eq_true rfl) ⟨by decide, by decide, by decide, by decide⟩ hc0 (fun E h9 q => by
      obtain ⟨qf, q0, qx, qR⟩ := QC_r q
      obtain ⟨e1, e2⟩ := xs1 qx
      subst e2
      have hk1 : kk = 1 := by omega
      refine AX_catch (from_ := 0) (to_ := 5) (hp := 6) (ct := 26) (j := 2) [] [] rfl ⟨by decide, by decide⟩ (by decide) exI_x clLh_26 (by decide +kernel) (List.forall_mem_nil _) (by decide) rfl rfl (Or.inl ⟨2, rfl, dL_host_6, ?_⟩)
      refine e_ldcI (z := -2500000) dL_host_7 ctL_28 ?_
      refine e_iret dL_host_9 rfl trivial (by decide) (by decide) ?_
      exact ⟨by rw [hk1, lw1_1], qf, Or.inr ⟨by omega, qR⟩⟩) (fun v9 h9 q => ?_)
  obtain ⟨qf, q0, qv, qR⟩ := QC_l q
  subst qv
  refine e_iret dL_host_5 rfl trivial (by decide) (by decide) ?_
  exact ⟨by rw [q0, lw1_0], qf, Or.inl ⟨q0, qR⟩⟩
set_option maxHeartbeats 4000000 in
set_option maxRecDepth 100000 in
theorem c_L_record {l : Launch} (hl : l.stackTraces = false) {S : S9} {h : zH} {B : Int} (hR : RC S h) (hI : II S B) (s : Int) (hsz : zin s) (kk : Int) (hkk : kk = (if ¬ isS S s then 1 else 0)) : zCH l ML_record [zR (some 2), zI s] h (QI S h kk (lw1 kk (S 32 s) (-2500000)) (recB S s)) := by
  have hc0 := c_X8_record hl hR hI s hsz
  rw [← hkk] at hc0
  refine zCH_of hl rfl (by decide) rfl rfl (Nat.le_of_ble_eq_true rfl) ?_
  refine e_aload_n dL_record_0 rfl rfl ?_
  refine e_iload_n dL_record_1 rfl rfl ?_
  refine e_callV (As := [zI _]) (cb := 9) dL_record_2 moX8_record mvX8_record mlL_99 (by decide) rfl (show zK h 2 = 9 + 1 from hR.1.1.1) rfl (Nat.le_of_ble_eq_true rfl) ⟨by decide, by decide, by decide, by decide⟩ hc0 (fun E h9 q => by
      obtain ⟨qf, q0, qx, qR⟩ := QC_r q
      obtain ⟨e1, e2⟩ := xs1 qx
      subst e2
      have hk1 : kk = 1 := by omega
      refine AX_catch (from_ := 0) (to_ := 5) (hp := 6) (ct := 26) (j := 2) [] [] rfl ⟨by decide, by decide⟩ (by decide) exI_x clLh_26 (by decide +kernel) (List.forall_mem_nil _) (by decide) rfl rfl (Or.inl ⟨2, rfl, dL_record_6, ?_⟩)
      refine e_ldcI (z := -2500000) dL_record_7 ctL_28 ?_
      refine e_iret dL_record_9 rfl trivial (by decide) (by decide) ?_
      exact ⟨by rw [hk1, lw1_1], qf, Or.inr ⟨by omega, qR⟩⟩) (fun v9 h9 q => ?_)
  obtain ⟨qf, q0, qv, qR⟩ := QC_l q
  subst qv
  refine e_iret dL_record_5 rfl trivial (by decide) (by decide) ?_
  exact ⟨by rw [q0, lw1_0], qf, Or.inl ⟨q0, qR⟩⟩
set_option maxHeartbeats 4000000 in
set_option maxRecDepth 100000 in
theorem c_L_played {l : Launch} (hl : l.stackTraces = false) {S : S9} {h : zH} {B : Int} (hR : RC S h) (hI : II S B) (s : Int) (hsz : zin s) (t : Int) (htz : zin t) (x : Int) (hxz : zin x) (y : Int) (hyz : zin y) (kk : Int) (hkk : kk = (if ¬ (isS S s ∧ isXY x y) then 1 else if ¬ (1 ≤ t ∧ t ≤ S 32 s) then 2 else 0)) : zCH l ML_played [zR (some 2), zI s, zI t, zI x, zI y] h (QI S h kk (lw2 kk (S 34 ((60 * s + (t - 1)) * 96 + (y * 12 + x))) (-2500000) (-3000000)) S) := by
  have hc0 := c_X8_played hl hR hI s hsz t htz x hxz y hyz
  rw [← hkk] at hc0
  refine zCH_of hl rfl (by decide) rfl rfl (Nat.le_of_ble_eq_true rfl) ?_
  refine e_aload_n dL_played_0 rfl rfl ?_
  refine e_iload_n dL_played_1 rfl rfl ?_
  refine e_iload_n dL_played_2 rfl rfl ?_
  refine e_iload_n dL_played_3 rfl rfl ?_
  refine e_iload dL_played_4 rfl ?_
  refine e_callV (As := [zI _, zI _, zI _, zI _]) (cb := 9) dL_played_6 moX8_played mvX8_played mlL_102 (by decide) rfl (show zK h 2 = 9 + 1 from hR.1.1.1) rfl (Nat.le_of_ble_eq_true rfl) ⟨by decide, by decide, by decide, by decide⟩ hc0 (fun E h9 q => by
      obtain ⟨qf, q0, qx, qR⟩ := QC_r q
      rcases xs2 qx with ⟨e1, e2⟩ | ⟨e1, e2⟩
      · subst e2
        have hk1 : kk = 1 := by omega
        refine AX_catch (from_ := 0) (to_ := 9) (hp := 10) (ct := 26) (j := 5) [] [(0, 9, 15, 68)] rfl ⟨by decide, by decide⟩ (by decide) exI_x clLh_26 (by decide +kernel) (List.forall_mem_nil _) (by decide) rfl rfl (Or.inr ⟨dL_played_10, ?_⟩)
        refine e_ldcI (z := -2500000) dL_played_12 ctL_28 ?_
        refine e_iret dL_played_14 rfl trivial (by decide) (by decide) ?_
        exact ⟨by rw [hk1, lw2_1], qf, Or.inr ⟨by omega, qR⟩⟩
      · subst e2
        have hk1 : kk = 2 := by omega
        refine AX_catch (from_ := 0) (to_ := 9) (hp := 15) (ct := 68) (j := 5) [(0, 9, 10, 26)] [] rfl ⟨by decide, by decide⟩ (by decide) exN_x clLh_68 (by decide +kernel) (List.forall_mem_cons.mpr ⟨⟨by decide, exI, exI_x, by decide +kernel, clLh_26⟩, (List.forall_mem_nil _)⟩) (by decide) rfl rfl (Or.inr ⟨dL_played_15, ?_⟩)
        refine e_ldcI (z := -3000000) dL_played_17 ctL_70 ?_
        refine e_iret dL_played_19 rfl trivial (by decide) (by decide) ?_
        exact ⟨by rw [hk1, lw2_2], qf, Or.inr ⟨by omega, qR⟩⟩) (fun v9 h9 q => ?_)
  obtain ⟨qf, q0, qv, qR⟩ := QC_l q
  subst qv
  refine e_iret dL_played_9 rfl trivial (by decide) (by decide) ?_
  exact ⟨by rw [q0, lw2_0], qf, Or.inl ⟨q0, qR⟩⟩
set_option maxHeartbeats 4000000 in
set_option maxRecDepth 100000 in
theorem c_L_noted {l : Launch} (hl : l.stackTraces = false) {S : S9} {h : zH} {B : Int} (hR : RC S h) (hI : II S B) (s : Int) (hsz : zin s) (kk : Int) (hkk : kk = (if ¬ isS S s then 1 else if ¬ S 31 s = 1 then 2 else 0)) : zCH l ML_noted [zR (some 2), zI s] h (QI S h kk (lw2 kk (S 33 s) (-2500000) (-3000000)) S) := by
  have hc0 := c_X8_noted hl hR hI s hsz
  rw [← hkk] at hc0
  refine zCH_of hl rfl (by decide) rfl rfl (Nat.le_of_ble_eq_true rfl) ?_
  refine e_aload_n dL_noted_0 rfl rfl ?_
  refine e_iload_n dL_noted_1 rfl rfl ?_
  refine e_callV (As := [zI _]) (cb := 9) dL_noted_2 moX8_noted mvX8_noted mlL_105 (by decide) rfl (show zK h 2 = 9 + 1 from hR.1.1.1) rfl (Nat.le_of_ble_eq_true rfl) ⟨by decide, by decide, by decide, by decide⟩ hc0 (fun E h9 q => by
      obtain ⟨qf, q0, qx, qR⟩ := QC_r q
      rcases xs2 qx with ⟨e1, e2⟩ | ⟨e1, e2⟩
      · subst e2
        have hk1 : kk = 1 := by omega
        refine AX_catch (from_ := 0) (to_ := 5) (hp := 6) (ct := 26) (j := 2) [] [(0, 5, 10, 68)] rfl ⟨by decide, by decide⟩ (by decide) exI_x clLh_26 (by decide +kernel) (List.forall_mem_nil _) (by decide) rfl rfl (Or.inl ⟨2, rfl, dL_noted_6, ?_⟩)
        refine e_ldcI (z := -2500000) dL_noted_7 ctL_28 ?_
        refine e_iret dL_noted_9 rfl trivial (by decide) (by decide) ?_
        exact ⟨by rw [hk1, lw2_1], qf, Or.inr ⟨by omega, qR⟩⟩
      · subst e2
        have hk1 : kk = 2 := by omega
        refine AX_catch (from_ := 0) (to_ := 5) (hp := 10) (ct := 68) (j := 2) [(0, 5, 6, 26)] [] rfl ⟨by decide, by decide⟩ (by decide) exN_x clLh_68 (by decide +kernel) (List.forall_mem_cons.mpr ⟨⟨by decide, exI, exI_x, by decide +kernel, clLh_26⟩, (List.forall_mem_nil _)⟩) (by decide) rfl rfl (Or.inl ⟨2, rfl, dL_noted_10, ?_⟩)
        refine e_ldcI (z := -3000000) dL_noted_11 ctL_70 ?_
        refine e_iret dL_noted_13 rfl trivial (by decide) (by decide) ?_
        exact ⟨by rw [hk1, lw2_2], qf, Or.inr ⟨by omega, qR⟩⟩) (fun v9 h9 q => ?_)
  obtain ⟨qf, q0, qv, qR⟩ := QC_l q
  subst qv
  refine e_iret dL_noted_5 rfl trivial (by decide) (by decide) ?_
  exact ⟨by rw [q0, lw2_0], qf, Or.inl ⟨q0, qR⟩⟩
set_option maxHeartbeats 4000000 in
set_option maxRecDepth 100000 in
theorem c_L_is_c {l : Launch} (hl : l.stackTraces = false) {S : S9} {h : zH} {B : Int} (hR : RC S h) (hI : II S B) (s : Int) (hsz : zin s) (w : Int) (hwz : zin w) (p : Int) (hpp : isWn S s w → posO S s (6 * s + w) p) (cc dd : Int) (hcc : zin cc) (hdd : dd = 0 ∨ dd = 1) (kk : Int) (hkk : kk = (if ¬ isWn S s w then 1 else 0)) : zCH l ML_is [zR (some 2), zI 99, zI s, zI w, zI cc, zI dd] h (QI S h kk (lw1 kk (if (S 11 (6 * s + w)) = 0 then 0 else 1) (-2500000)) (cloS S s (6 * s + w) p)) := by
  have hc0 := c_X8_closeWindow hl hR hI s hsz w hwz p hpp
  rw [← hkk] at hc0
  have hv01 : (S 11 (6 * s + w)) = 0 ∨ (S 11 (6 * s + w)) = 1 := (hI.2.2.2.2 11 (by decide) _)
  refine zCH_of hl rfl (by decide) rfl rfl (Nat.le_of_ble_eq_true rfl) ?_
  refine e_iload_n dL_is_0 rfl rfl ?_
  refine e_bipush dL_is_1 (by decide) ?_
  refine e_icmp_ne (tgt := 18) dL_is_3 (by decide) (by decide) (by decide) (fun c => absurd rfl c) (fun _ => ?_)
  refine e_aload_n dL_is_6 rfl rfl ?_
  refine e_iload_n dL_is_7 rfl rfl ?_
  refine e_iload_n dL_is_8 rfl rfl ?_
  refine e_callV (As := [zI _, zI _]) (cb := 9) dL_is_9 moX8_closeWindow mvX8_closeWindow mlL_108 (by decide) rfl (show zK h 2 = 9 + 1 from hR.1.1.1) rfl (Nat.le_of_ble_eq_true rfl) ⟨by decide, by decide, by decide, by decide⟩ hc0 (fun E h9 q => by
      obtain ⟨qf, q0, qx, qR⟩ := QC_r q
      obtain ⟨e1, e2⟩ := xs1 qx
      subst e2
      have hk1 : kk = 1 := by omega
      refine AX_catch (from_ := 0) (to_ := 122) (hp := 123) (ct := 26) (j := 6) [] [(0, 122, 128, 29), (0, 122, 133, 19)] rfl ⟨by decide, by decide⟩ (by decide) exI_x clLh_26 (by decide +kernel) (List.forall_mem_nil _) (by decide) rfl rfl (Or.inr ⟨dL_is_123, ?_⟩)
      refine e_ldcI (z := -2500000) dL_is_125 ctL_28 ?_
      refine e_iret dL_is_127 rfl trivial (by decide) (by decide) ?_
      exact ⟨by rw [hk1, lw1_1], qf, Or.inr ⟨by omega, qR⟩⟩) (fun v9 h9 q => ?_)
  obtain ⟨qf, q0, qv, qR⟩ := QC_l q
  subst qv
  refine e_if_eq (tgt := 121) dL_is_12 (by decide) (by omega) (fun c0 => ?_) (fun c0 => ?_)
  · skip
    refine e_iconst dL_is_121 ?_
    refine e_iret dL_is_122 rfl trivial (by decide) (by decide) ?_
    exact ⟨by rw [q0, lw1_0, if_pos c0], qf, Or.inl ⟨q0, qR⟩⟩
  · skip
    refine e_goto (tgt := 117) dL_is_15 (by decide) ?_
    refine e_iconst dL_is_117 ?_
    refine e_goto (tgt := 122) dL_is_118 (by decide) ?_
    refine e_iret dL_is_122 rfl trivial (by decide) (by decide) ?_
    exact ⟨by rw [q0, lw1_0, if_neg c0], qf, Or.inl ⟨q0, qR⟩⟩
set_option maxHeartbeats 4000000 in
set_option maxRecDepth 100000 in
theorem c_L_is_r {l : Launch} (hl : l.stackTraces = false) {S : S9} {h : zH} {B : Int} (hR : RC S h) (hI : II S B) (s : Int) (hsz : zin s) (w : Int) (hwz : zin w) (p : Int) (hpp : isWn S s w → posO S s (6 * s + w) p) (cc dd : Int) (hcc : zin cc) (hdd : dd = 0 ∨ dd = 1) (kk : Int) (hkk : kk = (if ¬ isWn S s w then 1 else 0)) : zCH l ML_is [zR (some 2), zI 114, zI s, zI w, zI cc, zI dd] h (QI S h kk (lw1 kk (if (b2 (S 15 (6 * s + S 16 s - 1) ≠ 6 * s + w)) = 0 then 0 else 1) (-2500000)) (raiS S s (6 * s + w) p)) := by
  have hc0 := c_X8_raise hl hR hI s hsz w hwz p hpp
  rw [← hkk] at hc0
  have hv01 : (b2 (S 15 (6 * s + S 16 s - 1) ≠ 6 * s + w)) = 0 ∨ (b2 (S 15 (6 * s + S 16 s - 1) ≠ 6 * s + w)) = 1 := b2_01
  refine zCH_of hl rfl (by decide) rfl rfl (Nat.le_of_ble_eq_true rfl) ?_
  refine e_iload_n dL_is_0 rfl rfl ?_
  refine e_bipush dL_is_1 (by decide) ?_
  refine e_icmp_ne (tgt := 18) dL_is_3 (by decide) (by decide) (by decide) (fun _ => ?_) (fun c => absurd c (by decide))
  refine e_iload_n dL_is_18 rfl rfl ?_
  refine e_bipush dL_is_19 (by decide) ?_
  refine e_icmp_ne (tgt := 36) dL_is_21 (by decide) (by decide) (by decide) (fun c => absurd rfl c) (fun _ => ?_)
  refine e_aload_n dL_is_24 rfl rfl ?_
  refine e_iload_n dL_is_25 rfl rfl ?_
  refine e_iload_n dL_is_26 rfl rfl ?_
  refine e_callV (As := [zI _, zI _]) (cb := 9) dL_is_27 moX8_raise mvX8_raise mlL_112 (by decide) rfl (show zK h 2 = 9 + 1 from hR.1.1.1) rfl (Nat.le_of_ble_eq_true rfl) ⟨by decide, by decide, by decide, by decide⟩ hc0 (fun E h9 q => by
      obtain ⟨qf, q0, qx, qR⟩ := QC_r q
      obtain ⟨e1, e2⟩ := xs1 qx
      subst e2
      have hk1 : kk = 1 := by omega
      refine AX_catch (from_ := 0) (to_ := 122) (hp := 123) (ct := 26) (j := 6) [] [(0, 122, 128, 29), (0, 122, 133, 19)] rfl ⟨by decide, by decide⟩ (by decide) exI_x clLh_26 (by decide +kernel) (List.forall_mem_nil _) (by decide) rfl rfl (Or.inr ⟨dL_is_123, ?_⟩)
      refine e_ldcI (z := -2500000) dL_is_125 ctL_28 ?_
      refine e_iret dL_is_127 rfl trivial (by decide) (by decide) ?_
      exact ⟨by rw [hk1, lw1_1], qf, Or.inr ⟨by omega, qR⟩⟩) (fun v9 h9 q => ?_)
  obtain ⟨qf, q0, qv, qR⟩ := QC_l q
  subst qv
  refine e_if_eq (tgt := 121) dL_is_30 (by decide) (by omega) (fun c0 => ?_) (fun c0 => ?_)
  · skip
    refine e_iconst dL_is_121 ?_
    refine e_iret dL_is_122 rfl trivial (by decide) (by decide) ?_
    exact ⟨by rw [q0, lw1_0, if_pos c0], qf, Or.inl ⟨q0, qR⟩⟩
  · skip
    refine e_goto (tgt := 117) dL_is_33 (by decide) ?_
    refine e_iconst dL_is_117 ?_
    refine e_goto (tgt := 122) dL_is_118 (by decide) ?_
    refine e_iret dL_is_122 rfl trivial (by decide) (by decide) ?_
    exact ⟨by rw [q0, lw1_0, if_neg c0], qf, Or.inl ⟨q0, qR⟩⟩
set_option maxHeartbeats 4000000 in
set_option maxRecDepth 100000 in
theorem c_L_is_s {l : Launch} (hl : l.stackTraces = false) {S : S9} {h : zH} {B : Int} (hR : RC S h) (hI : II S B) (s : Int) (hsz : zin s) (w : Int) (hwz : zin w) (v : Int) (hv : v = 0 ∨ v = 1) (cc : Int) (hcc : zin cc) (kk : Int) (hkk : kk = (if ¬ isWn S s w then 1 else 0)) : zCH l ML_is [zR (some 2), zI 115, zI s, zI w, zI cc, zI v] h (QI S h kk (lw1 kk (if (S 11 (6 * s + w)) = 0 then 0 else 1) (-2500000)) (up S 11 (6 * s + w) v)) := by
  have hc0 := c_X8_show hl hR hI s hsz w hwz v hv
  rw [← hkk] at hc0
  have hv01 : (S 11 (6 * s + w)) = 0 ∨ (S 11 (6 * s + w)) = 1 := (hI.2.2.2.2 11 (by decide) _)
  refine zCH_of hl rfl (by decide) rfl rfl (Nat.le_of_ble_eq_true rfl) ?_
  refine e_iload_n dL_is_0 rfl rfl ?_
  refine e_bipush dL_is_1 (by decide) ?_
  refine e_icmp_ne (tgt := 18) dL_is_3 (by decide) (by decide) (by decide) (fun _ => ?_) (fun c => absurd c (by decide))
  refine e_iload_n dL_is_18 rfl rfl ?_
  refine e_bipush dL_is_19 (by decide) ?_
  refine e_icmp_ne (tgt := 36) dL_is_21 (by decide) (by decide) (by decide) (fun _ => ?_) (fun c => absurd c (by decide))
  refine e_iload_n dL_is_36 rfl rfl ?_
  refine e_bipush dL_is_37 (by decide) ?_
  refine e_icmp_ne (tgt := 56) dL_is_39 (by decide) (by decide) (by decide) (fun c => absurd rfl c) (fun _ => ?_)
  refine e_aload_n dL_is_42 rfl rfl ?_
  refine e_iload_n dL_is_43 rfl rfl ?_
  refine e_iload_n dL_is_44 rfl rfl ?_
  refine e_iload dL_is_45 rfl ?_
  refine e_callV (As := [zI _, zI _, zI _]) (cb := 9) dL_is_47 moX8_show mvX8_show mlL_115 (by decide) rfl (show zK h 2 = 9 + 1 from hR.1.1.1) rfl (Nat.le_of_ble_eq_true rfl) ⟨by decide, by decide, by decide, by decide⟩ hc0 (fun E h9 q => by
      obtain ⟨qf, q0, qx, qR⟩ := QC_r q
      obtain ⟨e1, e2⟩ := xs1 qx
      subst e2
      have hk1 : kk = 1 := by omega
      refine AX_catch (from_ := 0) (to_ := 122) (hp := 123) (ct := 26) (j := 6) [] [(0, 122, 128, 29), (0, 122, 133, 19)] rfl ⟨by decide, by decide⟩ (by decide) exI_x clLh_26 (by decide +kernel) (List.forall_mem_nil _) (by decide) rfl rfl (Or.inr ⟨dL_is_123, ?_⟩)
      refine e_ldcI (z := -2500000) dL_is_125 ctL_28 ?_
      refine e_iret dL_is_127 rfl trivial (by decide) (by decide) ?_
      exact ⟨by rw [hk1, lw1_1], qf, Or.inr ⟨by omega, qR⟩⟩) (fun v9 h9 q => ?_)
  obtain ⟨qf, q0, qv, qR⟩ := QC_l q
  subst qv
  refine e_if_eq (tgt := 121) dL_is_50 (by decide) (by omega) (fun c0 => ?_) (fun c0 => ?_)
  · skip
    refine e_iconst dL_is_121 ?_
    refine e_iret dL_is_122 rfl trivial (by decide) (by decide) ?_
    exact ⟨by rw [q0, lw1_0, if_pos c0], qf, Or.inl ⟨q0, qR⟩⟩
  · skip
    refine e_goto (tgt := 117) dL_is_53 (by decide) ?_
    refine e_iconst dL_is_117 ?_
    refine e_goto (tgt := 122) dL_is_118 (by decide) ?_
    refine e_iret dL_is_122 rfl trivial (by decide) (by decide) ?_
    exact ⟨by rw [q0, lw1_0, if_neg c0], qf, Or.inl ⟨q0, qR⟩⟩
set_option maxHeartbeats 4000000 in
set_option maxRecDepth 100000 in
theorem c_L_is_m {l : Launch} (hl : l.stackTraces = false) {S : S9} {h : zH} {B : Int} (hR : RC S h) (hI : II S B) (s : Int) (hsz : zin s) (w : Int) (hwz : zin w) (v u : Int) (hv : v = 0 ∨ v = 1) (hu : u = 0 ∨ u = 1) (cc : Int) (hcc : zin cc) (hu9 : u = if cc = 1 then 1 else 0) (kk : Int) (hkk : kk = (if ¬ isWn S s w then 1 else 0)) : zCH l ML_is [zR (some 2), zI 109, zI s, zI w, zI cc, zI v] h (QI S h kk (lw1 kk (if (b2 (S 12 (6 * s + w) ≠ v ∨ S 13 (6 * s + w) ≠ u)) = 0 then 0 else 1) (-2500000)) (up (up S 12 (6 * s + w) v) 13 (6 * s + w) u)) := by
  have hc0 := c_X8_mark hl hR hI s hsz w hwz v u hv hu
  rw [← hkk] at hc0
  have hv01 : (b2 (S 12 (6 * s + w) ≠ v ∨ S 13 (6 * s + w) ≠ u)) = 0 ∨ (b2 (S 12 (6 * s + w) ≠ v ∨ S 13 (6 * s + w) ≠ u)) = 1 := b2_01
  refine zCH_of hl rfl (by decide) rfl rfl (Nat.le_of_ble_eq_true rfl) ?_
  refine e_iload_n dL_is_0 rfl rfl ?_
  refine e_bipush dL_is_1 (by decide) ?_
  refine e_icmp_ne (tgt := 18) dL_is_3 (by decide) (by decide) (by decide) (fun _ => ?_) (fun c => absurd c (by decide))
  refine e_iload_n dL_is_18 rfl rfl ?_
  refine e_bipush dL_is_19 (by decide) ?_
  refine e_icmp_ne (tgt := 36) dL_is_21 (by decide) (by decide) (by decide) (fun _ => ?_) (fun c => absurd c (by decide))
  refine e_iload_n dL_is_36 rfl rfl ?_
  refine e_bipush dL_is_37 (by decide) ?_
  refine e_icmp_ne (tgt := 56) dL_is_39 (by decide) (by decide) (by decide) (fun _ => ?_) (fun c => absurd c (by decide))
  refine e_iload_n dL_is_56 rfl rfl ?_
  refine e_bipush dL_is_57 (by decide) ?_
  refine e_icmp_ne (tgt := 87) dL_is_59 (by decide) (by decide) (by decide) (fun c => absurd rfl c) (fun _ => ?_)
  refine e_aload_n dL_is_62 rfl rfl ?_
  refine e_iload_n dL_is_63 rfl rfl ?_
  refine e_iload_n dL_is_64 rfl rfl ?_
  refine e_iload dL_is_65 rfl ?_
  refine e_iload dL_is_67 rfl ?_
  refine e_iconst dL_is_69 ?_
  refine e_cut 78 [zI u, zI v, zI w, zI s, zR (some 2)] ?_ (fun J => ?_)
  · skip
    refine e_callV (As := [zI _, zI _, zI _, zI _]) (cb := 9) dL_is_78 moX8_mark mvX8_mark mlL_119 (by decide) rfl (show zK h 2 = 9 + 1 from hR.1.1.1) rfl (Nat.le_of_ble_eq_true rfl) ⟨by decide, by decide, by decide, by decide⟩ hc0 (fun E h9 q => by
        obtain ⟨qf, q0, qx, qR⟩ := QC_r q
        obtain ⟨e1, e2⟩ := xs1 qx
        subst e2
        have hk1 : kk = 1 := by omega
        refine AX_catch (from_ := 0) (to_ := 122) (hp := 123) (ct := 26) (j := 6) [] [(0, 122, 128, 29), (0, 122, 133, 19)] rfl ⟨by decide, by decide⟩ (by decide) exI_x clLh_26 (by decide +kernel) (List.forall_mem_nil _) (by decide) rfl rfl (Or.inr ⟨dL_is_123, ?_⟩)
        refine e_ldcI (z := -2500000) dL_is_125 ctL_28 ?_
        refine e_iret dL_is_127 rfl trivial (by decide) (by decide) ?_
        exact ⟨by rw [hk1, lw1_1], qf, Or.inr ⟨by omega, qR⟩⟩) (fun v9 h9 q => ?_)
    obtain ⟨qf, q0, qv, qR⟩ := QC_l q
    subst qv
    refine e_if_eq (tgt := 121) dL_is_81 (by decide) (by omega) (fun c0 => ?_) (fun c0 => ?_)
    · skip
      refine e_iconst dL_is_121 ?_
      refine e_iret dL_is_122 rfl trivial (by decide) (by decide) ?_
      exact ⟨by rw [q0, lw1_0, if_pos c0], qf, Or.inl ⟨q0, qR⟩⟩
    · skip
      refine e_goto (tgt := 117) dL_is_84 (by decide) ?_
      refine e_iconst dL_is_117 ?_
      refine e_goto (tgt := 122) dL_is_118 (by decide) ?_
      refine e_iret dL_is_122 rfl trivial (by decide) (by decide) ?_
      exact ⟨by rw [q0, lw1_0, if_neg c0], qf, Or.inl ⟨q0, qR⟩⟩
  · skip
    refine e_icmp_ne (tgt := 77) dL_is_70 (by decide) hcc (by decide) (fun c => ?_) (fun c => ?_)
    · skip
      refine e_iconst dL_is_77 ?_
      rw [if_neg c] at hu9
      subst hu9
      exact J
    · skip
      refine e_iconst dL_is_73 ?_
      refine e_goto (tgt := 78) dL_is_74 (by decide) ?_
      rw [if_pos c] at hu9
      subst hu9
      exact J
set_option maxHeartbeats 4000000 in
set_option maxRecDepth 100000 in
theorem c_L_is_a {l : Launch} (hl : l.stackTraces = false) {S : S9} {h : zH} {B : Int} (hR : RC S h) (hI : II S B) (a : Int) (haz : zin a) (b : Int) (hbz : zin b) (t : Int) (htz : zin t) (v : Int) (hv : v = 0 ∨ v = 1) (kk : Int) (hkk : kk = (if ¬ (isS S a ∧ isS S b) then 1 else if ¬ (0 ≤ t ∧ t ≤ 2) ∨ a = b then 2 else 0)) : zCH l ML_is [zR (some 2), zI 97, zI a, zI b, zI t, zI v] h (QI S h kk (lw2 kk (if (S 25 ((4 * a + b) * 3 + t)) = 0 then 0 else 1) (-2500000) (-2000000)) (up S 25 ((4 * a + b) * 3 + t) v)) := by
  have hc0 := c_X8_allow hl hR hI a haz b hbz t htz v hv
  rw [← hkk] at hc0
  have hv01 : (S 25 ((4 * a + b) * 3 + t)) = 0 ∨ (S 25 ((4 * a + b) * 3 + t)) = 1 := (hI.2.2.2.2 25 (by decide) _)
  refine zCH_of hl rfl (by decide) rfl rfl (Nat.le_of_ble_eq_true rfl) ?_
  refine e_iload_n dL_is_0 rfl rfl ?_
  refine e_bipush dL_is_1 (by decide) ?_
  refine e_icmp_ne (tgt := 18) dL_is_3 (by decide) (by decide) (by decide) (fun _ => ?_) (fun c => absurd c (by decide))
  refine e_iload_n dL_is_18 rfl rfl ?_
  refine e_bipush dL_is_19 (by decide) ?_
  refine e_icmp_ne (tgt := 36) dL_is_21 (by decide) (by decide) (by decide) (fun _ => ?_) (fun c => absurd c (by decide))
  refine e_iload_n dL_is_36 rfl rfl ?_
  refine e_bipush dL_is_37 (by decide) ?_
  refine e_icmp_ne (tgt := 56) dL_is_39 (by decide) (by decide) (by decide) (fun _ => ?_) (fun c => absurd c (by decide))
  refine e_iload_n dL_is_56 rfl rfl ?_
  refine e_bipush dL_is_57 (by decide) ?_
  refine e_icmp_ne (tgt := 87) dL_is_59 (by decide) (by decide) (by decide) (fun _ => ?_) (fun c => absurd c (by decide))
  refine e_iload_n dL_is_87 rfl rfl ?_
  refine e_bipush dL_is_88 (by decide) ?_
  refine e_icmp_ne (tgt := 109) dL_is_90 (by decide) (by decide) (by decide) (fun c => absurd rfl c) (fun _ => ?_)
  refine e_aload_n dL_is_93 rfl rfl ?_
  refine e_iload_n dL_is_94 rfl rfl ?_
  refine e_iload_n dL_is_95 rfl rfl ?_
  refine e_iload dL_is_96 rfl ?_
  refine e_iload dL_is_98 rfl ?_
  refine e_callV (As := [zI _, zI _, zI _, zI _]) (cb := 9) dL_is_100 moX8_allow mvX8_allow mlL_123 (by decide) rfl (show zK h 2 = 9 + 1 from hR.1.1.1) rfl (Nat.le_of_ble_eq_true rfl) ⟨by decide, by decide, by decide, by decide⟩ hc0 (fun E h9 q => by
      obtain ⟨qf, q0, qx, qR⟩ := QC_r q
      rcases xs2 qx with ⟨e1, e2⟩ | ⟨e1, e2⟩
      · subst e2
        have hk1 : kk = 1 := by omega
        refine AX_catch (from_ := 0) (to_ := 122) (hp := 123) (ct := 26) (j := 6) [] [(0, 122, 128, 29), (0, 122, 133, 19)] rfl ⟨by decide, by decide⟩ (by decide) exI_x clLh_26 (by decide +kernel) (List.forall_mem_nil _) (by decide) rfl rfl (Or.inr ⟨dL_is_123, ?_⟩)
        refine e_ldcI (z := -2500000) dL_is_125 ctL_28 ?_
        refine e_iret dL_is_127 rfl trivial (by decide) (by decide) ?_
        exact ⟨by rw [hk1, lw2_1], qf, Or.inr ⟨by omega, qR⟩⟩
      · subst e2
        have hk1 : kk = 2 := by omega
        refine AX_catch (from_ := 0) (to_ := 122) (hp := 128) (ct := 29) (j := 6) [(0, 122, 123, 26)] [(0, 122, 133, 19)] rfl ⟨by decide, by decide⟩ (by decide) exA_x clLh_29 (by decide +kernel) (List.forall_mem_cons.mpr ⟨⟨by decide, exI, exI_x, by decide +kernel, clLh_26⟩, (List.forall_mem_nil _)⟩) (by decide) rfl rfl (Or.inr ⟨dL_is_128, ?_⟩)
        refine e_ldcI (z := -2000000) dL_is_130 ctL_31 ?_
        refine e_iret dL_is_132 rfl trivial (by decide) (by decide) ?_
        exact ⟨by rw [hk1, lw2_2], qf, Or.inr ⟨by omega, qR⟩⟩) (fun v9 h9 q => ?_)
  obtain ⟨qf, q0, qv, qR⟩ := QC_l q
  subst qv
  refine e_if_eq (tgt := 121) dL_is_103 (by decide) (by omega) (fun c0 => ?_) (fun c0 => ?_)
  · skip
    refine e_iconst dL_is_121 ?_
    refine e_iret dL_is_122 rfl trivial (by decide) (by decide) ?_
    exact ⟨by rw [q0, lw2_0, if_pos c0], qf, Or.inl ⟨q0, qR⟩⟩
  · skip
    refine e_goto (tgt := 117) dL_is_106 (by decide) ?_
    refine e_iconst dL_is_117 ?_
    refine e_goto (tgt := 122) dL_is_118 (by decide) ?_
    refine e_iret dL_is_122 rfl trivial (by decide) (by decide) ?_
    exact ⟨by rw [q0, lw2_0, if_neg c0], qf, Or.inl ⟨q0, qR⟩⟩
set_option maxHeartbeats 4000000 in
set_option maxRecDepth 100000 in
theorem c_L_is_v {l : Launch} (hl : l.stackTraces = false) {S : S9} {h : zH} {B : Int} (hR : RC S h) (hI : II S B) (s : Int) (hsz : zin s) (bb cc dd : Int) (hcc : zin cc) (hdd : dd = 0 ∨ dd = 1) (kk : Int) (hkk : kk = (if ¬ isS S s then 1 else if S 26 s = 1 then 2 else 0)) : zCH l ML_is [zR (some 2), zI 118, zI s, zI bb, zI cc, zI dd] h (QI S h kk (lw2 kk (if (b2 (0 < S 28 s)) = 0 then 0 else 1) (-2500000) (-1000000)) (movgS S s)) := by
  have hc0 := c_X8_move hl hR hI s hsz
  rw [← hkk] at hc0
  have hv01 : (b2 (0 < S 28 s)) = 0 ∨ (b2 (0 < S 28 s)) = 1 := b2_01
  refine zCH_of hl rfl (by decide) rfl rfl (Nat.le_of_ble_eq_true rfl) ?_
  refine e_iload_n dL_is_0 rfl rfl ?_
  refine e_bipush dL_is_1 (by decide) ?_
  refine e_icmp_ne (tgt := 18) dL_is_3 (by decide) (by decide) (by decide) (fun _ => ?_) (fun c => absurd c (by decide))
  refine e_iload_n dL_is_18 rfl rfl ?_
  refine e_bipush dL_is_19 (by decide) ?_
  refine e_icmp_ne (tgt := 36) dL_is_21 (by decide) (by decide) (by decide) (fun _ => ?_) (fun c => absurd c (by decide))
  refine e_iload_n dL_is_36 rfl rfl ?_
  refine e_bipush dL_is_37 (by decide) ?_
  refine e_icmp_ne (tgt := 56) dL_is_39 (by decide) (by decide) (by decide) (fun _ => ?_) (fun c => absurd c (by decide))
  refine e_iload_n dL_is_56 rfl rfl ?_
  refine e_bipush dL_is_57 (by decide) ?_
  refine e_icmp_ne (tgt := 87) dL_is_59 (by decide) (by decide) (by decide) (fun _ => ?_) (fun c => absurd c (by decide))
  refine e_iload_n dL_is_87 rfl rfl ?_
  refine e_bipush dL_is_88 (by decide) ?_
  refine e_icmp_ne (tgt := 109) dL_is_90 (by decide) (by decide) (by decide) (fun _ => ?_) (fun c => absurd c (by decide))
  refine e_aload_n dL_is_109 rfl rfl ?_
  refine e_iload_n dL_is_110 rfl rfl ?_
  refine e_callV (As := [zI _]) (cb := 9) dL_is_111 moX8_move mvX8_move mlL_127 (by decide) rfl (show zK h 2 = 9 + 1 from hR.1.1.1) rfl (Nat.le_of_ble_eq_true rfl) ⟨by decide, by decide, by decide, by decide⟩ hc0 (fun E h9 q => by
      obtain ⟨qf, q0, qx, qR⟩ := QC_r q
      rcases xs2 qx with ⟨e1, e2⟩ | ⟨e1, e2⟩
      · subst e2
        have hk1 : kk = 1 := by omega
        refine AX_catch (from_ := 0) (to_ := 122) (hp := 123) (ct := 26) (j := 6) [] [(0, 122, 128, 29), (0, 122, 133, 19)] rfl ⟨by decide, by decide⟩ (by decide) exI_x clLh_26 (by decide +kernel) (List.forall_mem_nil _) (by decide) rfl rfl (Or.inr ⟨dL_is_123, ?_⟩)
        refine e_ldcI (z := -2500000) dL_is_125 ctL_28 ?_
        refine e_iret dL_is_127 rfl trivial (by decide) (by decide) ?_
        exact ⟨by rw [hk1, lw2_1], qf, Or.inr ⟨by omega, qR⟩⟩
      · subst e2
        have hk1 : kk = 2 := by omega
        refine AX_catch (from_ := 0) (to_ := 122) (hp := 133) (ct := 19) (j := 6) [(0, 122, 123, 26), (0, 122, 128, 29)] [] rfl ⟨by decide, by decide⟩ (by decide) exS_x clLh_19 (by decide +kernel) (List.forall_mem_cons.mpr ⟨⟨by decide, exI, exI_x, by decide +kernel, clLh_26⟩, (List.forall_mem_cons.mpr ⟨⟨by decide, exA, exA_x, by decide +kernel, clLh_29⟩, (List.forall_mem_nil _)⟩)⟩) (by decide) rfl rfl (Or.inr ⟨dL_is_133, ?_⟩)
        refine e_ldcI (z := -1000000) dL_is_135 ctL_21 ?_
        refine e_iret dL_is_137 rfl trivial (by decide) (by decide) ?_
        exact ⟨by rw [hk1, lw2_2], qf, Or.inr ⟨by omega, qR⟩⟩) (fun v9 h9 q => ?_)
  obtain ⟨qf, q0, qv, qR⟩ := QC_l q
  subst qv
  refine e_if_eq (tgt := 121) dL_is_114 (by decide) (by omega) (fun c0 => ?_) (fun c0 => ?_)
  · skip
    refine e_iconst dL_is_121 ?_
    refine e_iret dL_is_122 rfl trivial (by decide) (by decide) ?_
    exact ⟨by rw [q0, lw2_0, if_pos c0], qf, Or.inl ⟨q0, qR⟩⟩
  · skip
    refine e_iconst dL_is_117 ?_
    refine e_goto (tgt := 122) dL_is_118 (by decide) ?_
    refine e_iret dL_is_122 rfl trivial (by decide) (by decide) ?_
    exact ⟨by rw [q0, lw2_0, if_neg c0], qf, Or.inl ⟨q0, qR⟩⟩
theorem hoL_openSession : zHok ML_openSession 1 := ⟨mwL_openSession, by decide, by decide, by decide +kernel⟩
theorem hoL_openWindow : zHok ML_openWindow 6 := ⟨mwL_openWindow, by decide, by decide, by decide +kernel⟩
theorem hoL_moveWindow : zHok ML_moveWindow 5 := ⟨mwL_moveWindow, by decide, by decide, by decide +kernel⟩
theorem hoL_draw : zHok ML_draw 8 := ⟨mwL_draw, by decide, by decide, by decide +kernel⟩
theorem hoL_screen : zHok ML_screen 4 := ⟨mwL_screen, by decide, by decide, by decide +kernel⟩
theorem hoL_join : zHok ML_join 3 := ⟨mwL_join, by decide, by decide, by decide +kernel⟩
theorem hoL_bid : zHok ML_bid 3 := ⟨mwL_bid, by decide, by decide, by decide +kernel⟩
theorem hoL_money : zHok ML_money 2 := ⟨mwL_money, by decide, by decide, by decide +kernel⟩
theorem hoL_picture : zHok ML_picture 4 := ⟨mwL_picture, by decide, by decide, by decide +kernel⟩
theorem hoL_seen : zHok ML_seen 4 := ⟨mwL_seen, by decide, by decide, by decide +kernel⟩
theorem hoL_behind : zHok ML_behind 2 := ⟨mwL_behind, by decide, by decide, by decide +kernel⟩
theorem hoL_next : zHok ML_next 2 := ⟨mwL_next, by decide, by decide, by decide +kernel⟩
theorem hoL_nextCost : zHok ML_nextCost 2 := ⟨mwL_nextCost, by decide, by decide, by decide +kernel⟩
theorem hoL_tick : zHok ML_tick 2 := ⟨mwL_tick, by decide, by decide, by decide +kernel⟩
theorem hoL_type : zHok ML_type 3 := ⟨mwL_type, by decide, by decide, by decide +kernel⟩
theorem hoL_guesses : zHok ML_guesses 2 := ⟨mwL_guesses, by decide, by decide, by decide +kernel⟩
theorem hoL_copy : zHok ML_copy 4 := ⟨mwL_copy, by decide, by decide, by decide +kernel⟩
theorem hoL_paste : zHok ML_paste 3 := ⟨mwL_paste, by decide, by decide, by decide +kernel⟩
theorem hoL_left : zHok ML_left 2 := ⟨mwL_left, by decide, by decide, by decide +kernel⟩
theorem hoL_host : zHok ML_host 2 := ⟨mwL_host, by decide, by decide, by decide +kernel⟩
theorem hoL_record : zHok ML_record 2 := ⟨mwL_record, by decide, by decide, by decide +kernel⟩
theorem hoL_played : zHok ML_played 5 := ⟨mwL_played, by decide, by decide, by decide +kernel⟩
theorem hoL_noted : zHok ML_noted 2 := ⟨mwL_noted, by decide, by decide, by decide +kernel⟩
theorem hoL_is : zHok ML_is 6 := ⟨mwL_is, by decide, by decide, by decide +kernel⟩
