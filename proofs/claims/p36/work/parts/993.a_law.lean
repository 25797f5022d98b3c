/-! p36: the law, a turn's branches -/
abbrev QW : zO → zH → Prop := fun o _ => o = .inl (some (zI 1))
set_option maxHeartbeats 4000000 in
set_option maxRecDepth 100000 in
/-- a window is opened -/
theorem br_open {l : Launch} (hl : l.stackTraces = false) (hG : GMore l) {L : Nat} {f : Nat → Int32} (hL : L ≤ 260) {S : S9} {h : zH} {B ns nc turn at9 what q c w : Int} {k n : Nat} (hk : k + 100 ≤ 600192) (hn : n + 13000 ≤ 7295879) (hB9 : B ≤ 1000000) (hJ : LJ S B ns nc h) (hq : 0 ≤ q ∧ q < ns) (hc : 0 ≤ c ∧ c < nc) (hw : 0 ≤ w ∧ w < 6 ∧ (S 4 q ≠ 0 → w < S 4 q)) (ha : 0 ≤ at9 ∧ at9 ≤ 330) (K : ∀ S' h', LJ S' (B + 20000) ns nc h' → AW l (MLW L f) QW (k + 100) (n + 13000) 1230 [zY, zR (some 2), zI ns, zI nc, zR (some 6), zR (some 7), zR (some 99), zL (S' 3 0), zX, zI turn, zI at9, zX, zX, zI c, zX, zX, zX, zX, zX, zX] [] h') : AW l (MLW L f) QW k n 219 [zY, zR (some 2), zI ns, zI nc, zR (some 6), zR (some 7), zR (some 99), zL (S 3 0), zX, zI turn, zI at9, zI what, zI q, zI c, zI w, zX, zX, zX, zX, zX] [] h := by
  obtain ⟨hR, hI4, hbt, hB0, ⟨⟨hb1, hb2⟩, ⟨r1, r2, r3⟩, ⟨w1, w2, w3⟩, d1, d2⟩, hd⟩ := id hJ
  have hI := II_mk hI4 hbt
  have hN : IN S := hI4.1.1
  obtain ⟨n1, n2, n3, n4, n5⟩ := id hN
  have n5q := n5 q (by omega) (by omega)
  have hqS : isS S q := ⟨by omega, by omega⟩
  have hcC : isC S c := ⟨by omega, by omega⟩
  have hqz : zin q := ⟨by omega, by omega⟩
  have hcz : zin c := ⟨by omega, by omega⟩
  have hwz : zin w := ⟨by omega, by omega⟩
  obtain ⟨hq0, hq1⟩ := hq
  obtain ⟨hc0, hc1⟩ := hc
  obtain ⟨hw0, hw6, hw9⟩ := hw
  obtain ⟨ha0, ha1⟩ := ha
  have y3_17 := smv_in (L := L) (f := f) (k := at9 + 3) (n := 17) (by omega)
  have y4_13 := smv_in (L := L) (f := f) (k := at9 + 4) (n := 13) (by omega)
  have y5_12 := smv_in (L := L) (f := f) (k := at9 + 5) (n := 12) (by omega)
  have y6_8 := smv_in (L := L) (f := f) (k := at9 + 6) (n := 8) (by omega)
  by_cases h6 : S 4 q = 6
  · skip
    refine e_aload_n dL_law_219 rfl rfl ?_
    refine e_iload dL_law_220 rfl ?_
    refine e_aloadY dL_law_222 rfl rfl ?_
    refine e_iload dL_law_223 rfl ?_
    refine e_iconst dL_law_225 ?_
    refine e_iadd dL_law_226 ?_
    refine e_bipush dL_law_227 (by decide) ?_
    refine e_callSY (Yc := MLsome L f) (As := [zY, zI _, zI _]) dL_law_229 moL_some msL_some mlL_146 rfl rfl rfl (Nat.le_of_ble_eq_true rfl) ⟨Nat.le_of_ble_eq_true rfl, Nat.le_of_ble_eq_true rfl, by show k + 0 ≤ 600192; omega, by show n + 0 ≤ 7295879; omega⟩ (c_L_some hl hL _ _ (by omega) (by omega) (by omega) (by omega)) (fun E h9 q => by cases q.1) (fun v9 h9 q => ?_)
    obtain ⟨e1, e2⟩ := q
    cases e1
    rw [e2]
    clear e2 h9
    refine e_iconst dL_law_232 ?_
    refine e_isub dL_law_233 ?_
    refine e_aloadY dL_law_234 rfl rfl ?_
    refine e_iload dL_law_235 rfl ?_
    refine e_iconst dL_law_237 ?_
    refine e_iadd dL_law_238 ?_
    refine e_bipush dL_law_239 (by decide) ?_
    refine e_callSY (Yc := MLsome L f) (As := [zY, zI _, zI _]) dL_law_241 moL_some msL_some mlL_146 rfl rfl rfl (Nat.le_of_ble_eq_true rfl) ⟨Nat.le_of_ble_eq_true rfl, Nat.le_of_ble_eq_true rfl, by show k + 0 ≤ 600192; omega, by show n + 0 ≤ 7295879; omega⟩ (c_L_some hl hL _ _ (by omega) (by omega) (by omega) (by omega)) (fun E h9 q => by cases q.1) (fun v9 h9 q => ?_)
    obtain ⟨e1, e2⟩ := q
    cases e1
    rw [e2]
    clear e2 h9
    refine e_iconst dL_law_244 ?_
    refine e_isub dL_law_245 ?_
    refine e_iconst dL_law_246 ?_
    refine e_aloadY dL_law_247 rfl rfl ?_
    refine e_iload dL_law_248 rfl ?_
    refine e_iconst dL_law_250 ?_
    refine e_iadd dL_law_251 ?_
    refine e_bipush dL_law_252 (by decide) ?_
    refine e_callSY (Yc := MLsome L f) (As := [zY, zI _, zI _]) dL_law_254 moL_some msL_some mlL_146 rfl rfl rfl (Nat.le_of_ble_eq_true rfl) ⟨Nat.le_of_ble_eq_true rfl, Nat.le_of_ble_eq_true rfl, by show k + 0 ≤ 600192; omega, by show n + 0 ≤ 7295879; omega⟩ (c_L_some hl hL _ _ (by omega) (by omega) (by omega) (by omega)) (fun E h9 q => by cases q.1) (fun v9 h9 q => ?_)
    obtain ⟨e1, e2⟩ := q
    cases e1
    rw [e2]
    clear e2 h9
    refine e_iadd dL_law_257 ?_
    refine e_iconst dL_law_258 ?_
    refine e_aloadY dL_law_259 rfl rfl ?_
    refine e_iload dL_law_260 rfl ?_
    refine e_bipush dL_law_262 (by decide) ?_
    refine e_iadd dL_law_264 ?_
    refine e_bipush dL_law_265 (by decide) ?_
    refine e_callSY (Yc := MLsome L f) (As := [zY, zI _, zI _]) dL_law_267 moL_some msL_some mlL_146 rfl rfl rfl (Nat.le_of_ble_eq_true rfl) ⟨Nat.le_of_ble_eq_true rfl, Nat.le_of_ble_eq_true rfl, by show k + 0 ≤ 600192; omega, by show n + 0 ≤ 7295879; omega⟩ (c_L_some hl hL _ _ (by omega) (by omega) (by omega) (by omega)) (fun E h9 q => by cases q.1) (fun v9 h9 q => ?_)
    obtain ⟨e1, e2⟩ := q
    cases e1
    rw [e2]
    clear e2 h9
    refine e_iadd dL_law_270 ?_
    refine e_callH (As := [zR _, zI _, zI _, zI _, zI _, zI _]) dL_law_271 hoL_openWindow mlL_156 rfl (Nat.le_of_ble_eq_true rfl) ⟨Nat.le_of_ble_eq_true rfl, Nat.le_of_ble_eq_true rfl, by show k + 6 ≤ 600192; omega, by show n + 164 ≤ 7295879; omega⟩ (c_L_openWindow hl hR hI q hqz _ ⟨by omega, by omega⟩ _ ⟨by omega, by omega⟩ _ ⟨by omega, by omega⟩ _ ⟨by omega, by omega⟩ 3 (Eq.symm (Eq.trans (if_neg (nn hqS)) (Eq.trans (if_neg (nn ⟨⟨by omega, by omega⟩, ⟨by omega, by omega⟩, ⟨by omega, by omega⟩, by omega, by omega⟩)) (if_pos h6))))) (fun E h9 q => (QI_inl q).elim) (fun v9 h9 q => ?_)
    obtain ⟨e1, qf, q3⟩ := q
    cases e1
    rw [lw3_3]
    have hR2 := (q3.resolve_left (fun z => by omega)).2
    refine e_istore dL_law_274 (Nat.le_of_ble_eq_true rfl) rfl rfl ?_
    refine e_iload dL_law_276 rfl ?_
    refine e_aload dL_law_278 rfl ?_
    refine e_iload dL_law_280 rfl ?_
    refine e_iald dL_law_282 ((qf 7 (by decide)).1.trans w1) hq0 (by rw [(qf 7 (by decide)).2.1, w2]; exact hq1) ((((qf 7 (by decide)).2.2.2.1 q).trans (w3 q hq0 hq1)).trans h6) (fun r282 => ?_)
    refine e_bipush dL_law_283 (by decide) ?_
    refine e_icmp_ne (tgt := 293) dL_law_285 (by decide) (by omega) (by omega) (fun c285 => by exfalso; exact c285 rfl) (fun c285 => ?_)
    refine e_ldcI (z := -1000000) dL_law_288 ctL_21 ?_
    refine e_goto (tgt := 298) dL_law_290 (by decide) ?_
    refine e_icmp_eq (tgt := 303) dL_law_298 (by decide) (by omega) (by omega) (fun c298 => ?_) (fun c298 => by exfalso; exact c298 rfl)
    refine e_aload dL_law_303 rfl ?_
    refine e_iload dL_law_305 rfl ?_
    refine e_dup2 dL_law_307 rfl rfl ?_
    refine e_iald dL_law_308 ((qf 7 (by decide)).1.trans w1) hq0 (by rw [(qf 7 (by decide)).2.1, w2]; exact hq1) ((((qf 7 (by decide)).2.2.2.1 q).trans (w3 q hq0 hq1)).trans h6) (fun r308 => ?_)
    refine e_iload dL_law_309 rfl ?_
    refine e_if_ge (tgt := 318) dL_law_311 (by decide) (by omega) (fun c311 => by exfalso; omega) (fun c311 => ?_)
    refine e_iconst dL_law_314 ?_
    refine e_goto (tgt := 319) dL_law_315 (by decide) ?_
    refine e_iadd dL_law_319 ?_
    refine e_iast dL_law_320 ((qf 7 (by decide)).1.trans w1) hq0 (by rw [(qf 7 (by decide)).2.1, w2]; exact hq1) ⟨by omega, by omega⟩ ?_
    refine e_goto (tgt := 1230) dL_law_321 (by decide) ?_
    have hJ2 := LJ_st hJ qf hR2 (I4_le (show B ≤ B + 20000 by omega) hI4) hbt (by omega) (fun f9 hf j => rfl) hd
    refine e_mask [true, true, true, true, true, true, true, true, true, true, true, false, false, true, false, false, false, false, false, false] ?_
    refine e_wid (k + 100) (n + 13000) (by show k + 6 ≤ _; omega) (by show n + 164 ≤ _; omega) ?_
    exact K S _ (LJ_win hJ2 (by rw [h6]; rfl))
  · skip
    refine e_aload_n dL_law_219 rfl rfl ?_
    refine e_iload dL_law_220 rfl ?_
    refine e_aloadY dL_law_222 rfl rfl ?_
    refine e_iload dL_law_223 rfl ?_
    refine e_iconst dL_law_225 ?_
    refine e_iadd dL_law_226 ?_
    refine e_bipush dL_law_227 (by decide) ?_
    refine e_callSY (Yc := MLsome L f) (As := [zY, zI _, zI _]) dL_law_229 moL_some msL_some mlL_146 rfl rfl rfl (Nat.le_of_ble_eq_true rfl) ⟨Nat.le_of_ble_eq_true rfl, Nat.le_of_ble_eq_true rfl, by show k + 0 ≤ 600192; omega, by show n + 0 ≤ 7295879; omega⟩ (c_L_some hl hL _ _ (by omega) (by omega) (by omega) (by omega)) (fun E h9 q => by cases q.1) (fun v9 h9 q => ?_)
    obtain ⟨e1, e2⟩ := q
    cases e1
    rw [e2]
    clear e2 h9
    refine e_iconst dL_law_232 ?_
    refine e_isub dL_law_233 ?_
    refine e_aloadY dL_law_234 rfl rfl ?_
    refine e_iload dL_law_235 rfl ?_
    refine e_iconst dL_law_237 ?_
    refine e_iadd dL_law_238 ?_
    refine e_bipush dL_law_239 (by decide) ?_
    refine e_callSY (Yc := MLsome L f) (As := [zY, zI _, zI _]) dL_law_241 moL_some msL_some mlL_146 rfl rfl rfl (Nat.le_of_ble_eq_true rfl) ⟨Nat.le_of_ble_eq_true rfl, Nat.le_of_ble_eq_true rfl, by show k + 0 ≤ 600192; omega, by show n + 0 ≤ 7295879; omega⟩ (c_L_some hl hL _ _ (by omega) (by omega) (by omega) (by omega)) (fun E h9 q => by cases q.1) (fun v9 h9 q => ?_)
    obtain ⟨e1, e2⟩ := q
    cases e1
    rw [e2]
    clear e2 h9
    refine e_iconst dL_law_244 ?_
    refine e_isub dL_law_245 ?_
    refine e_iconst dL_law_246 ?_
    refine e_aloadY dL_law_247 rfl rfl ?_
    refine e_iload dL_law_248 rfl ?_
    refine e_iconst dL_law_250 ?_
    refine e_iadd dL_law_251 ?_
    refine e_bipush dL_law_252 (by decide) ?_
    refine e_callSY (Yc := MLsome L f) (As := [zY, zI _, zI _]) dL_law_254 moL_some msL_some mlL_146 rfl rfl rfl (Nat.le_of_ble_eq_true rfl) ⟨Nat.le_of_ble_eq_true rfl, Nat.le_of_ble_eq_true rfl, by show k + 0 ≤ 600192; omega, by show n + 0 ≤ 7295879; omega⟩ (c_L_some hl hL _ _ (by omega) (by omega) (by omega) (by omega)) (fun E h9 q => by cases q.1) (fun v9 h9 q => ?_)
    obtain ⟨e1, e2⟩ := q
    cases e1
    rw [e2]
    clear e2 h9
    refine e_iadd dL_law_257 ?_
    refine e_iconst dL_law_258 ?_
    refine e_aloadY dL_law_259 rfl rfl ?_
    refine e_iload dL_law_260 rfl ?_
    refine e_bipush dL_law_262 (by decide) ?_
    refine e_iadd dL_law_264 ?_
    refine e_bipush dL_law_265 (by decide) ?_
    refine e_callSY (Yc := MLsome L f) (As := [zY, zI _, zI _]) dL_law_267 moL_some msL_some mlL_146 rfl rfl rfl (Nat.le_of_ble_eq_true rfl) ⟨Nat.le_of_ble_eq_true rfl, Nat.le_of_ble_eq_true rfl, by show k + 0 ≤ 600192; omega, by show n + 0 ≤ 7295879; omega⟩ (c_L_some hl hL _ _ (by omega) (by omega) (by omega) (by omega)) (fun E h9 q => by cases q.1) (fun v9 h9 q => ?_)
    obtain ⟨e1, e2⟩ := q
    cases e1
    rw [e2]
    clear e2 h9
    refine e_iadd dL_law_270 ?_
    refine e_callH (As := [zR _, zI _, zI _, zI _, zI _, zI _]) dL_law_271 hoL_openWindow mlL_156 rfl (Nat.le_of_ble_eq_true rfl) ⟨Nat.le_of_ble_eq_true rfl, Nat.le_of_ble_eq_true rfl, by show k + 6 ≤ 600192; omega, by show n + 164 ≤ 7295879; omega⟩ (c_L_openWindow hl hR hI q hqz _ ⟨by omega, by omega⟩ _ ⟨by omega, by omega⟩ _ ⟨by omega, by omega⟩ _ ⟨by omega, by omega⟩ 0 (Eq.symm (Eq.trans (if_neg (nn hqS)) (Eq.trans (if_neg (nn ⟨⟨by omega, by omega⟩, ⟨by omega, by omega⟩, ⟨by omega, by omega⟩, by omega, by omega⟩)) (if_neg h6))))) (fun E h9 q => (QI_inl q).elim) (fun v9 h9 q => ?_)
    obtain ⟨e1, qf, q3⟩ := q
    cases e1
    rw [lw3_0]
    have hR2 := (q3.resolve_right (fun z => by omega)).2
    refine e_istore dL_law_274 (Nat.le_of_ble_eq_true rfl) rfl rfl ?_
    refine e_iload dL_law_276 rfl ?_
    refine e_aload dL_law_278 rfl ?_
    refine e_iload dL_law_280 rfl ?_
    refine e_iald dL_law_282 ((qf 7 (by decide)).1.trans w1) hq0 (by rw [(qf 7 (by decide)).2.1, w2]; exact hq1) (((qf 7 (by decide)).2.2.2.1 q).trans (w3 q hq0 hq1)) (fun r282 => ?_)
    refine e_bipush dL_law_283 (by decide) ?_
    refine e_icmp_ne (tgt := 293) dL_law_285 (by decide) (by omega) (by omega) (fun c285 => ?_) (fun c285 => by exfalso; omega)
    refine e_aload dL_law_293 rfl ?_
    refine e_iload dL_law_295 rfl ?_
    refine e_iald dL_law_297 ((qf 7 (by decide)).1.trans w1) hq0 (by rw [(qf 7 (by decide)).2.1, w2]; exact hq1) (((qf 7 (by decide)).2.2.2.1 q).trans (w3 q hq0 hq1)) (fun r297 => ?_)
    refine e_icmp_eq (tgt := 303) dL_law_298 (by decide) (by omega) (by omega) (fun c298 => ?_) (fun c298 => by exfalso; exact c298 rfl)
    refine e_aload dL_law_303 rfl ?_
    refine e_iload dL_law_305 rfl ?_
    refine e_dup2 dL_law_307 rfl rfl ?_
    refine e_iald dL_law_308 ((qf 7 (by decide)).1.trans w1) hq0 (by rw [(qf 7 (by decide)).2.1, w2]; exact hq1) (((qf 7 (by decide)).2.2.2.1 q).trans (w3 q hq0 hq1)) (fun r308 => ?_)
    refine e_iload dL_law_309 rfl ?_
    refine e_if_ge (tgt := 318) dL_law_311 (by decide) (by omega) (fun c311 => ?_) (fun c311 => by exfalso; omega)
    refine e_iconst dL_law_318 ?_
    refine e_iadd dL_law_319 ?_
    refine e_iast dL_law_320 ((qf 7 (by decide)).1.trans w1) hq0 (by rw [(qf 7 (by decide)).2.1, w2]; exact hq1) ⟨by omega, by omega⟩ ?_
    refine e_goto (tgt := 1230) dL_law_321 (by decide) ?_
    have hJ2 := LJ_open hJ hR2 qf hq0 hq1 (by omega) ⟨⟨by omega, by omega⟩, ⟨by omega, by omega⟩, ⟨by omega, by omega⟩, by omega, by omega⟩
    refine e_mask [true, true, true, true, true, true, true, true, true, true, true, false, false, true, false, false, false, false, false, false] ?_
    refine e_wid (k + 100) (n + 13000) (by show k + 6 ≤ _; omega) (by show n + 164 ≤ _; omega) ?_
    have z9 := K _ _ hJ2
    rw [opW_f (f := 3) (by decide)] at z9
    exact z9
set_option maxHeartbeats 4000000 in
set_option maxRecDepth 100000 in
/-- a rectangle is drawn, and a cell of it again -/
theorem br_draw {l : Launch} (hl : l.stackTraces = false) (hG : GMore l) {L : Nat} {f : Nat → Int32} (hL : L ≤ 260) {S : S9} {h : zH} {B ns nc turn at9 what q c w : Int} {k n : Nat} (hk : k + 100 ≤ 600192) (hn : n + 13000 ≤ 7295879) (hB9 : B ≤ 1000000) (hJ : LJ S B ns nc h) (hq : 0 ≤ q ∧ q < ns) (hc : 0 ≤ c ∧ c < nc) (hw : 0 ≤ w ∧ w < 6 ∧ (S 4 q ≠ 0 → w < S 4 q)) (ha : 0 ≤ at9 ∧ at9 ≤ 330) (K : ∀ S' h', LJ S' (B + 20000) ns nc h' → AW l (MLW L f) QW (k + 100) (n + 13000) 1230 [zY, zR (some 2), zI ns, zI nc, zR (some 6), zR (some 7), zR (some 99), zL (S' 3 0), zX, zI turn, zI at9, zX, zX, zI c, zX, zX, zX, zX, zX, zX] [] h') : AW l (MLW L f) QW k n 330 [zY, zR (some 2), zI ns, zI nc, zR (some 6), zR (some 7), zR (some 99), zL (S 3 0), zX, zI turn, zI at9, zI what, zI q, zI c, zI w, zX, zX, zX, zX, zX] [] h := by
  obtain ⟨hR, hI4, hbt, hB0, ⟨⟨hb1, hb2⟩, ⟨r1, r2, r3⟩, ⟨w1, w2, w3⟩, d1, d2⟩, hd⟩ := id hJ
  have hI := II_mk hI4 hbt
  have hN : IN S := hI4.1.1
  obtain ⟨n1, n2, n3, n4, n5⟩ := id hN
  have n5q := n5 q (by omega) (by omega)
  have hqS : isS S q := ⟨by omega, by omega⟩
  have hcC : isC S c := ⟨by omega, by omega⟩
  have hqz : zin q := ⟨by omega, by omega⟩
  have hcz : zin c := ⟨by omega, by omega⟩
  have hwz : zin w := ⟨by omega, by omega⟩
  obtain ⟨hq0, hq1⟩ := hq
  obtain ⟨hc0, hc1⟩ := hc
  obtain ⟨hw0, hw6, hw9⟩ := hw
  obtain ⟨ha0, ha1⟩ := ha
  have y2_9 := smv_in (L := L) (f := f) (k := at9 + 2) (n := 9) (by omega)
  have y4_6 := smv_in (L := L) (f := f) (k := at9 + 4) (n := 6) (by omega)
  have y5_4 := smv_in (L := L) (f := f) (k := at9 + 5) (n := 4) (by omega)
  have y6_8 := smv_in (L := L) (f := f) (k := at9 + 6) (n := 8) (by omega)
  have y2_6 := smv_in (L := L) (f := f) (k := at9 + 2) (n := 6) (by omega)
  obtain ⟨col, hcol⟩ : ∃ col : Int, col = 10 * smv L f (at9 + 2) 9 := ⟨_, rfl⟩
  have hcolr : 0 ≤ col ∧ col ≤ 255 := by omega
  by_cases hw4 : isWn S q w
  · skip
    have hWw := hI4.1.2.1 q (6 * q + w) ⟨by omega, by omega, by omega, by have := hw4.2; omega⟩
    refine e_bipush dL_law_330 (by decide) ?_
    refine e_aloadY dL_law_332 rfl rfl ?_
    refine e_iload dL_law_333 rfl ?_
    refine e_iconst dL_law_335 ?_
    refine e_iadd dL_law_336 ?_
    refine e_bipush dL_law_337 (by decide) ?_
    refine e_callSY (Yc := MLsome L f) (As := [zY, zI _, zI _]) dL_law_339 moL_some msL_some mlL_146 rfl rfl rfl (Nat.le_of_ble_eq_true rfl) ⟨Nat.le_of_ble_eq_true rfl, Nat.le_of_ble_eq_true rfl, by show k + 0 ≤ 600192; omega, by show n + 0 ≤ 7295879; omega⟩ (c_L_some hl hL _ _ (by omega) (by omega) (by omega) (by omega)) (fun E h9 q => by cases q.1) (fun v9 h9 q => ?_)
    obtain ⟨e1, e2⟩ := q
    cases e1
    rw [e2]
    clear e2 h9
    refine e_imul dL_law_342 ?_
    refine e_istore dL_law_343 (Nat.le_of_ble_eq_true rfl) rfl rfl ?_
    rw [← hcol]
    refine e_aload_n dL_law_345 rfl rfl ?_
    refine e_iload dL_law_346 rfl ?_
    refine e_iload dL_law_348 rfl ?_
    refine e_aloadY dL_law_350 rfl rfl ?_
    refine e_iload dL_law_351 rfl ?_
    refine e_iconst dL_law_353 ?_
    refine e_iadd dL_law_354 ?_
    refine e_bipush dL_law_355 (by decide) ?_
    refine e_callSY (Yc := MLsome L f) (As := [zY, zI _, zI _]) dL_law_357 moL_some msL_some mlL_146 rfl rfl rfl (Nat.le_of_ble_eq_true rfl) ⟨Nat.le_of_ble_eq_true rfl, Nat.le_of_ble_eq_true rfl, by show k + 0 ≤ 600192; omega, by show n + 0 ≤ 7295879; omega⟩ (c_L_some hl hL _ _ (by omega) (by omega) (by omega) (by omega)) (fun E h9 q => by cases q.1) (fun v9 h9 q => ?_)
    obtain ⟨e1, e2⟩ := q
    cases e1
    rw [e2]
    clear e2 h9
    refine e_aloadY dL_law_360 rfl rfl ?_
    refine e_iload dL_law_361 rfl ?_
    refine e_iconst dL_law_363 ?_
    refine e_iadd dL_law_364 ?_
    refine e_iconst dL_law_365 ?_
    refine e_callSY (Yc := MLsome L f) (As := [zY, zI _, zI _]) dL_law_366 moL_some msL_some mlL_146 rfl rfl rfl (Nat.le_of_ble_eq_true rfl) ⟨Nat.le_of_ble_eq_true rfl, Nat.le_of_ble_eq_true rfl, by show k + 0 ≤ 600192; omega, by show n + 0 ≤ 7295879; omega⟩ (c_L_some hl hL _ _ (by omega) (by omega) (by omega) (by omega)) (fun E h9 q => by cases q.1) (fun v9 h9 q => ?_)
    obtain ⟨e1, e2⟩ := q
    cases e1
    rw [e2]
    clear e2 h9
    refine e_iconst dL_law_369 ?_
    refine e_aloadY dL_law_370 rfl rfl ?_
    refine e_iload dL_law_371 rfl ?_
    refine e_bipush dL_law_373 (by decide) ?_
    refine e_iadd dL_law_375 ?_
    refine e_bipush dL_law_376 (by decide) ?_
    refine e_callSY (Yc := MLsome L f) (As := [zY, zI _, zI _]) dL_law_378 moL_some msL_some mlL_146 rfl rfl rfl (Nat.le_of_ble_eq_true rfl) ⟨Nat.le_of_ble_eq_true rfl, Nat.le_of_ble_eq_true rfl, by show k + 0 ≤ 600192; omega, by show n + 0 ≤ 7295879; omega⟩ (c_L_some hl hL _ _ (by omega) (by omega) (by omega) (by omega)) (fun E h9 q => by cases q.1) (fun v9 h9 q => ?_)
    obtain ⟨e1, e2⟩ := q
    cases e1
    rw [e2]
    clear e2 h9
    refine e_iadd dL_law_381 ?_
    refine e_iconst dL_law_382 ?_
    refine e_aloadY dL_law_383 rfl rfl ?_
    refine e_iload dL_law_384 rfl ?_
    refine e_iconst dL_law_386 ?_
    refine e_iadd dL_law_387 ?_
    refine e_bipush dL_law_388 (by decide) ?_
    refine e_callSY (Yc := MLsome L f) (As := [zY, zI _, zI _]) dL_law_390 moL_some msL_some mlL_146 rfl rfl rfl (Nat.le_of_ble_eq_true rfl) ⟨Nat.le_of_ble_eq_true rfl, Nat.le_of_ble_eq_true rfl, by show k + 0 ≤ 600192; omega, by show n + 0 ≤ 7295879; omega⟩ (c_L_some hl hL _ _ (by omega) (by omega) (by omega) (by omega)) (fun E h9 q => by cases q.1) (fun v9 h9 q => ?_)
    obtain ⟨e1, e2⟩ := q
    cases e1
    rw [e2]
    clear e2 h9
    refine e_iadd dL_law_393 ?_
    refine e_iload dL_law_394 rfl ?_
    refine e_callH (As := [zR _, zI _, zI _, zI _, zI _, zI _, zI _, zI _]) dL_law_396 hoL_draw mlL_159 rfl (Nat.le_of_ble_eq_true rfl) ⟨Nat.le_of_ble_eq_true rfl, Nat.le_of_ble_eq_true rfl, by show k + 4 ≤ 600192; omega, by show n + 24 ≤ 7295879; omega⟩ (c_L_draw hl hR hI q hqz w hwz _ ⟨by omega, by omega⟩ _ ⟨by omega, by omega⟩ _ ⟨by omega, by omega⟩ _ ⟨by omega, by omega⟩ col ⟨by omega, by omega⟩ 0 (Eq.symm (Eq.trans (if_neg (nn hw4)) (if_neg (nn ⟨⟨⟨by omega, by omega⟩, by omega, by omega⟩, ⟨by omega, by omega⟩, ⟨by omega, by omega⟩, by omega, by omega⟩))))) (fun E h9 q => (QI_inl q).elim) (fun v9 h9 q => ?_)
    obtain ⟨e1, qf, q3⟩ := q
    cases e1
    rw [lw2_0]
    have hR2 := (q3.resolve_right (fun z => by omega)).2
    have hgot := draw_in (S := S) (w := 6 * q + w) (x := smv L f (at9 + 4) 6) (y := smv L f (at9 + 5) 4) (a := 1 + smv L f (at9 + 6) 8) (b := 1 + smv L f (at9 + 2) 6) (c := col) hWw
    have e14 : ∀ f9, f9 ≠ 14 → ∀ j, drawS S (6 * q + w) (smv L f (at9 + 4) 6) (smv L f (at9 + 5) 4) (1 + smv L f (at9 + 6) 8) (1 + smv L f (at9 + 2) 6) col f9 j = S f9 j := fun f9 hf j => drawS_f hf
    have hI42 := I4_draw (x := smv L f (at9 + 4) 6) (y := smv L f (at9 + 5) 4) (a := 1 + smv L f (at9 + 6) 8) (b := 1 + smv L f (at9 + 2) 6) (c := col) hI4 hw4 (by omega)
    have hbt2 := IBt_draw (w := 6 * q + w) (x := smv L f (at9 + 4) 6) (y := smv L f (at9 + 5) 4) (t := 1 + smv L f (at9 + 6) 8) (b := 1 + smv L f (at9 + 2) 6) (c := col) hbt
    generalize drawN S (6 * q + w) (smv L f (at9 + 4) 6) (smv L f (at9 + 5) 4) (1 + smv L f (at9 + 6) 8) (1 + smv L f (at9 + 2) 6) col = got at hgot ⊢
    generalize hS2 : drawS S (6 * q + w) (smv L f (at9 + 4) 6) (smv L f (at9 + 5) 4) (1 + smv L f (at9 + 6) 8) (1 + smv L f (at9 + 2) 6) col = S2 at hR2 e14 hI42 hbt2
    have hI2 := II_mk hI42 hbt2
    have hw5 : isWn S2 q w := by unfold isWn; rw [e14 1 (by decide), e14 4 (by decide), e14 10 (by decide)]; exact hw4
    have hone := draw_one (S := S2) (w := 6 * q + w) (c := col) (by rw [e14 7 (by decide)]; exact hWw.2.2.2.2.1)
    refine e_istore dL_law_399 (Nat.le_of_ble_eq_true rfl) rfl rfl ?_
    refine e_iload dL_law_401 rfl ?_
    refine e_if_le (tgt := 412) dL_law_403 (by decide) (by omega) (fun c403 => ?_) (fun c403 => ?_)
    · skip
      have g1 := (qf 99 (by decide)).1.trans d1
      have g12 := (qf 99 (by decide)).2.1.trans d2
      refine e_iload dL_law_412 rfl ?_
      refine e_if_lt (tgt := 437) dL_law_414 (by decide) (by omega) (fun c414 => by exfalso; omega) (fun c414 => ?_)
      refine e_aload_n dL_law_417 rfl rfl ?_
      refine e_iload dL_law_418 rfl ?_
      refine e_iload dL_law_420 rfl ?_
      refine e_iconst dL_law_422 ?_
      refine e_iconst dL_law_423 ?_
      refine e_iconst dL_law_424 ?_
      refine e_iconst dL_law_425 ?_
      refine e_iload dL_law_426 rfl ?_
      refine e_callH (As := [zR _, zI _, zI _, zI _, zI _, zI _, zI _, zI _]) dL_law_428 hoL_draw mlL_159 rfl (Nat.le_of_ble_eq_true rfl) ⟨Nat.le_of_ble_eq_true rfl, Nat.le_of_ble_eq_true rfl, by show k + 8 ≤ 600192; omega, by show n + 48 ≤ 7295879; omega⟩ (c_L_draw hl hR2 hI2 q hqz w hwz 0 (by decide) 0 (by decide) 1 (by decide) 1 (by decide) col ⟨by omega, by omega⟩ 0 (Eq.symm (Eq.trans (if_neg (nn hw5)) (if_neg (nn ⟨⟨⟨by omega, by omega⟩, by omega, by omega⟩, ⟨by omega, by omega⟩, ⟨by omega, by omega⟩, by omega, by omega⟩))))) (fun E h9 q => (QI_inl q).elim) (fun v9 h9 q => ?_)
      obtain ⟨e1, qf2, q3⟩ := q
      cases e1
      rw [lw2_0]
      have hR3 := (q3.resolve_right (fun z => by omega)).2
      refine e_iconst dL_law_431 ?_
      refine e_icmp_le (tgt := 437) dL_law_432 (by decide) (by omega) (by omega) (fun c432 => ?_) (fun c432 => by exfalso; omega)
      refine e_iload dL_law_437 rfl ?_
      refine e_if_lt (tgt := 448) dL_law_439 (by decide) (by omega) (fun c439 => by exfalso; omega) (fun c439 => ?_)
      refine e_aload dL_law_442 rfl ?_
      refine e_iload dL_law_444 rfl ?_
      refine e_iconst dL_law_446 ?_
      refine e_zast dL_law_447 ((qf2 99 (by decide)).1.trans g1) (by omega) (by rw [(qf2 99 (by decide)).2.1, g12]; omega) (Or.inr rfl) ?_
      refine e_goto (tgt := 1230) dL_law_448 (by decide) ?_
      have hI43 := I4_draw (x := 0) (y := 0) (a := 1) (b := 1) (c := col) hI42 hw5 (by omega)
      have hbt3 := IBt_draw (w := 6 * q + w) (x := 0) (y := 0) (t := 1) (b := 1) (c := col) hbt2
      have e143 : ∀ f9, f9 ≠ 14 → ∀ j, drawS S2 (6 * q + w) 0 0 1 1 col f9 j = S f9 j := fun f9 hf j => (drawS_f hf).trans (e14 f9 hf j)
      have hJ3 := LJ_draw hJ (LW_st hJ.2.2.2.2.1 (FQ_tr qf qf2) (fun f9 hf j => rfl)) (fun v hv => by rw [had_at ((FQ_tr qf qf2) 99 (by decide))]; exact hv) e143 hR3 (I4_le (show B ≤ B + 20000 by omega) hI43) hbt3 (by omega) hcolr (by rw [← hS2]; exact ⟨_, _, _, _, rfl⟩)
      refine e_mask [true, true, true, true, true, true, true, true, true, true, true, false, false, true, false, false, false, false, false, false] ?_
      refine e_wid (k + 100) (n + 13000) (by show k + 8 ≤ _; omega) (by show n + 48 ≤ _; omega) ?_
      have z9 := K _ _ hJ3
      rw [e143 3 (by decide) 0] at z9
      exact z9
    · skip
      refine e_aload dL_law_406 rfl ?_
      refine e_iload dL_law_408 rfl ?_
      refine e_iconst dL_law_410 ?_
      refine e_zast dL_law_411 ((qf 99 (by decide)).1.trans d1) (by omega) (by rw [(qf 99 (by decide)).2.1, d2]; omega) (Or.inr rfl) ?_
      have g1 := (qf 99 (by decide)).1.trans d1
      have g12 : zN (sa h9 99 col 1) 99 = 256 := (qf 99 (by decide)).2.1.trans d2
      have hR2b := RC_row9 (a := 99) (i := col) (v := 1) (Or.inr (Or.inr rfl)) hI42.1.1 hR2
      refine e_iload dL_law_412 rfl ?_
      refine e_if_lt (tgt := 437) dL_law_414 (by decide) (by omega) (fun c414 => by exfalso; omega) (fun c414 => ?_)
      refine e_aload_n dL_law_417 rfl rfl ?_
      refine e_iload dL_law_418 rfl ?_
      refine e_iload dL_law_420 rfl ?_
      refine e_iconst dL_law_422 ?_
      refine e_iconst dL_law_423 ?_
      refine e_iconst dL_law_424 ?_
      refine e_iconst dL_law_425 ?_
      refine e_iload dL_law_426 rfl ?_
      refine e_callH (As := [zR _, zI _, zI _, zI _, zI _, zI _, zI _, zI _]) dL_law_428 hoL_draw mlL_159 rfl (Nat.le_of_ble_eq_true rfl) ⟨Nat.le_of_ble_eq_true rfl, Nat.le_of_ble_eq_true rfl, by show k + 8 ≤ 600192; omega, by show n + 48 ≤ 7295879; omega⟩ (c_L_draw hl hR2b hI2 q hqz w hwz 0 (by decide) 0 (by decide) 1 (by decide) 1 (by decide) col ⟨by omega, by omega⟩ 0 (Eq.symm (Eq.trans (if_neg (nn hw5)) (if_neg (nn ⟨⟨⟨by omega, by omega⟩, by omega, by omega⟩, ⟨by omega, by omega⟩, ⟨by omega, by omega⟩, by omega, by omega⟩))))) (fun E h9 q => (QI_inl q).elim) (fun v9 h9 q => ?_)
      obtain ⟨e1, qf2, q3⟩ := q
      cases e1
      rw [lw2_0]
      have hR3 := (q3.resolve_right (fun z => by omega)).2
      refine e_iconst dL_law_431 ?_
      refine e_icmp_le (tgt := 437) dL_law_432 (by decide) (by omega) (by omega) (fun c432 => ?_) (fun c432 => by exfalso; omega)
      refine e_iload dL_law_437 rfl ?_
      refine e_if_lt (tgt := 448) dL_law_439 (by decide) (by omega) (fun c439 => by exfalso; omega) (fun c439 => ?_)
      refine e_aload dL_law_442 rfl ?_
      refine e_iload dL_law_444 rfl ?_
      refine e_iconst dL_law_446 ?_
      refine e_zast dL_law_447 ((qf2 99 (by decide)).1.trans g1) (by omega) (by rw [(qf2 99 (by decide)).2.1, g12]; omega) (Or.inr rfl) ?_
      refine e_goto (tgt := 1230) dL_law_448 (by decide) ?_
      have hI43 := I4_draw (x := 0) (y := 0) (a := 1) (b := 1) (c := col) hI42 hw5 (by omega)
      have hbt3 := IBt_draw (w := 6 * q + w) (x := 0) (y := 0) (t := 1) (b := 1) (c := col) hbt2
      have e143 : ∀ f9, f9 ≠ 14 → ∀ j, drawS S2 (6 * q + w) 0 0 1 1 col f9 j = S f9 j := fun f9 hf j => (drawS_f hf).trans (e14 f9 hf j)
      have hJ3 := LJ_draw hJ (LW_st (LW_had (v := col) (LW_st hJ.2.2.2.2.1 qf (fun f9 hf j => rfl))) qf2 (fun f9 hf j => rfl)) (fun v hv => by rw [had_at (qf2 99 (by decide))]; exact had_le (by rw [had_at (qf 99 (by decide))]; exact hv)) e143 hR3 (I4_le (show B ≤ B + 20000 by omega) hI43) hbt3 (by omega) hcolr (by rw [← hS2]; exact ⟨_, _, _, _, rfl⟩)
      refine e_mask [true, true, true, true, true, true, true, true, true, true, true, false, false, true, false, false, false, false, false, false] ?_
      refine e_wid (k + 100) (n + 13000) (by show k + 8 ≤ _; omega) (by show n + 48 ≤ _; omega) ?_
      have z9 := K _ _ hJ3
      rw [e143 3 (by decide) 0] at z9
      exact z9
  · skip
    refine e_bipush dL_law_330 (by decide) ?_
    refine e_aloadY dL_law_332 rfl rfl ?_
    refine e_iload dL_law_333 rfl ?_
    refine e_iconst dL_law_335 ?_
    refine e_iadd dL_law_336 ?_
    refine e_bipush dL_law_337 (by decide) ?_
    refine e_callSY (Yc := MLsome L f) (As := [zY, zI _, zI _]) dL_law_339 moL_some msL_some mlL_146 rfl rfl rfl (Nat.le_of_ble_eq_true rfl) ⟨Nat.le_of_ble_eq_true rfl, Nat.le_of_ble_eq_true rfl, by show k + 0 ≤ 600192; omega, by show n + 0 ≤ 7295879; omega⟩ (c_L_some hl hL _ _ (by omega) (by omega) (by omega) (by omega)) (fun E h9 q => by cases q.1) (fun v9 h9 q => ?_)
    obtain ⟨e1, e2⟩ := q
    cases e1
    rw [e2]
    clear e2 h9
    refine e_imul dL_law_342 ?_
    refine e_istore dL_law_343 (Nat.le_of_ble_eq_true rfl) rfl rfl ?_
    rw [← hcol]
    refine e_aload_n dL_law_345 rfl rfl ?_
    refine e_iload dL_law_346 rfl ?_
    refine e_iload dL_law_348 rfl ?_
    refine e_aloadY dL_law_350 rfl rfl ?_
    refine e_iload dL_law_351 rfl ?_
    refine e_iconst dL_law_353 ?_
    refine e_iadd dL_law_354 ?_
    refine e_bipush dL_law_355 (by decide) ?_
    refine e_callSY (Yc := MLsome L f) (As := [zY, zI _, zI _]) dL_law_357 moL_some msL_some mlL_146 rfl rfl rfl (Nat.le_of_ble_eq_true rfl) ⟨Nat.le_of_ble_eq_true rfl, Nat.le_of_ble_eq_true rfl, by show k + 0 ≤ 600192; omega, by show n + 0 ≤ 7295879; omega⟩ (c_L_some hl hL _ _ (by omega) (by omega) (by omega) (by omega)) (fun E h9 q => by cases q.1) (fun v9 h9 q => ?_)
    obtain ⟨e1, e2⟩ := q
    cases e1
    rw [e2]
    clear e2 h9
    refine e_aloadY dL_law_360 rfl rfl ?_
    refine e_iload dL_law_361 rfl ?_
    refine e_iconst dL_law_363 ?_
    refine e_iadd dL_law_364 ?_
    refine e_iconst dL_law_365 ?_
    refine e_callSY (Yc := MLsome L f) (As := [zY, zI _, zI _]) dL_law_366 moL_some msL_some mlL_146 rfl rfl rfl (Nat.le_of_ble_eq_true rfl) ⟨Nat.le_of_ble_eq_true rfl, Nat.le_of_ble_eq_true rfl, by show k + 0 ≤ 600192; omega, by show n + 0 ≤ 7295879; omega⟩ (c_L_some hl hL _ _ (by omega) (by omega) (by omega) (by omega)) (fun E h9 q => by cases q.1) (fun v9 h9 q => ?_)
    obtain ⟨e1, e2⟩ := q
    cases e1
    rw [e2]
    clear e2 h9
    refine e_iconst dL_law_369 ?_
    refine e_aloadY dL_law_370 rfl rfl ?_
    refine e_iload dL_law_371 rfl ?_
    refine e_bipush dL_law_373 (by decide) ?_
    refine e_iadd dL_law_375 ?_
    refine e_bipush dL_law_376 (by decide) ?_
    refine e_callSY (Yc := MLsome L f) (As := [zY, zI _, zI _]) dL_law_378 moL_some msL_some mlL_146 rfl rfl rfl (Nat.le_of_ble_eq_true rfl) ⟨Nat.le_of_ble_eq_true rfl, Nat.le_of_ble_eq_true rfl, by show k + 0 ≤ 600192; omega, by show n + 0 ≤ 7295879; omega⟩ (c_L_some hl hL _ _ (by omega) (by omega) (by omega) (by omega)) (fun E h9 q => by cases q.1) (fun v9 h9 q => ?_)
    obtain ⟨e1, e2⟩ := q
    cases e1
    rw [e2]
    clear e2 h9
    refine e_iadd dL_law_381 ?_
    refine e_iconst dL_law_382 ?_
    refine e_aloadY dL_law_383 rfl rfl ?_
    refine e_iload dL_law_384 rfl ?_
    refine e_iconst dL_law_386 ?_
    refine e_iadd dL_law_387 ?_
    refine e_bipush dL_law_388 (by decide) ?_
    refine e_callSY (Yc := MLsome L f) (As := [zY, zI _, zI _]) dL_law_390 moL_some msL_some mlL_146 rfl rfl rfl (Nat.le_of_ble_eq_true rfl) ⟨Nat.le_of_ble_eq_true rfl, Nat.le_of_ble_eq_true rfl, by show k + 0 ≤ 600192; omega, by show n + 0 ≤ 7295879; omega⟩ (c_L_some hl hL _ _ (by omega) (by omega) (by omega) (by omega)) (fun E h9 q => by cases q.1) (fun v9 h9 q => ?_)
    obtain ⟨e1, e2⟩ := q
    cases e1
    rw [e2]
    clear e2 h9
    refine e_iadd dL_law_393 ?_
    refine e_iload dL_law_394 rfl ?_
    refine e_callH (As := [zR _, zI _, zI _, zI _, zI _, zI _, zI _, zI _]) dL_law_396 hoL_draw mlL_159 rfl (Nat.le_of_ble_eq_true rfl) ⟨Nat.le_of_ble_eq_true rfl, Nat.le_of_ble_eq_true rfl, by show k + 4 ≤ 600192; omega, by show n + 24 ≤ 7295879; omega⟩ (c_L_draw hl hR hI q hqz w hwz _ ⟨by omega, by omega⟩ _ ⟨by omega, by omega⟩ _ ⟨by omega, by omega⟩ _ ⟨by omega, by omega⟩ col ⟨by omega, by omega⟩ 1 (Eq.symm (if_pos hw4))) (fun E h9 q => (QI_inl q).elim) (fun v9 h9 q => ?_)
    obtain ⟨e1, qf, q3⟩ := q
    cases e1
    rw [lw2_1]
    have hR2 := (q3.resolve_left (fun z => by omega)).2
    refine e_istore dL_law_399 (Nat.le_of_ble_eq_true rfl) rfl rfl ?_
    refine e_iload dL_law_401 rfl ?_
    refine e_if_le (tgt := 412) dL_law_403 (by decide) (by omega) (fun c403 => ?_) (fun c403 => by exfalso; omega)
    refine e_iload dL_law_412 rfl ?_
    refine e_if_lt (tgt := 437) dL_law_414 (by decide) (by omega) (fun c414 => ?_) (fun c414 => by exfalso; omega)
    refine e_iload dL_law_437 rfl ?_
    refine e_if_lt (tgt := 448) dL_law_439 (by decide) (by omega) (fun c439 => ?_) (fun c439 => by exfalso; omega)
    refine e_goto (tgt := 1230) dL_law_448 (by decide) ?_
    refine e_mask [true, true, true, true, true, true, true, true, true, true, true, false, false, true, false, false, false, false, false, false] ?_
    refine e_wid (k + 100) (n + 13000) (by show k + 4 ≤ _; omega) (by show n + 24 ≤ _; omega) ?_
    exact K S _ (LJ_st hJ qf hR2 (I4_le (show B ≤ B + 20000 by omega) hI4) hbt (by omega) (fun f9 hf j => rfl) hd)
