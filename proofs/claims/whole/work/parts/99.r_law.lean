/-! the law's cases -/
abbrev QW : zO → zH → Prop := fun o _ => o = .inl (some (zI 1))
theorem I4_le {S : S9} {B C : Int} (h : B ≤ C) (a : I4 S B) : I4 S C := ⟨a.1, a.2.1, IB_le h a.2.2.1, a.2.2.2⟩
def chI (a : Int) : Int := (((Int32.ofInt a).toUInt32 % 65536).toInt32).toInt
theorem chI_eq {a : Int} : ((Int32.ofInt a).toUInt32 % 65536).toInt32 = Int32.ofInt (chI a) := (Int32.ofInt_toInt _).symm
theorem chI_in {a : Int} : 0 ≤ chI a ∧ chI a < 65536 := by
  have h1 : ((Int32.ofInt a).toUInt32 % 65536).toNat < 65536 := by
    rw [UInt32.toNat_mod]
    exact Nat.mod_lt _ (by decide)
  have h2 : chI a = (((Int32.ofInt a).toUInt32 % 65536).toNat : Int) := by
    show (((Int32.ofInt a).toUInt32 % 65536).toBitVec).toInt = _
    rw [BitVec.toInt_eq_toNat_of_lt (by show 2 * ((Int32.ofInt a).toUInt32 % 65536).toNat < _; omega)]
    rfl
  omega
set_option maxHeartbeats 4000000 in
set_option maxRecDepth 100000 in
theorem cs_openSession {l : Launch} (hl : l.stackTraces = false) (hG : GMore l) {L : Nat} {f : Nat → Int32} {S : S9} {h : zH} {B i : Int} {k n : Nat} (i0 : 0 ≤ i) (i8 : i + 8 ≤ L) (hk : k + 10 ≤ 603072) (hn : n + 11813 ≤ 7207018) (hB9 : B ≤ 800000000) (hL0 : LI S B h) (K : ∀ S' h', LI S' (B + 2000) h' → AW l (MLW L f) QW (k + 10) (n + 11813) 2542 [zY, zR (some 2), zR (some 99), zR (some 6), zR (some 7), zI i, zX, zX, zX] [] h') : AW l (MLW L f) QW k n 192 [zY, zR (some 2), zR (some 99), zR (some 6), zR (some 7), zI i, zX, zX, zX] [] h := by
  obtain ⟨hM, hR, hI4, h6, h7, hB0⟩ := hL0
  refine e_G (fun G => ?_)
  have hI := II_of G hM hI4
  have hN : IN S := hI4.1.1
  have hIW : IW S := hI4.1.2.1
  have hIO : IO S := hI4.1.2.2.1
  have hIC : IC S := hI4.1.2.2.2.1
  have hIK : IK S := hI4.1.2.2.2.2
  obtain ⟨n1, n2, n3, n4, n5⟩ := id hN
  obtain ⟨kk, hkk⟩ : ∃ kk : Int, kk = (if S 1 0 = 4 then 1 else 0) := ⟨_, rfl⟩
  have hc1 := c_L_openSession hl hR hI h6 
  rw [← hkk] at hc1
  refine e_aload_n dL_law_192 rfl rfl ?_
  refine e_aload_n dL_law_193 rfl rfl ?_
  refine e_callH (As := [zR _, zR _]) dL_law_194 hoL_openSession mlL_134 rfl (Nat.le_of_ble_eq_true rfl) ⟨Nat.le_of_ble_eq_true rfl, Nat.le_of_ble_eq_true rfl, by show k + 10 ≤ 603072; omega, by show n + 242 ≤ 7207018; omega⟩ hc1 (fun E h1 q => (QL_inl q).elim) (fun v9 h1 q => ?_)
  obtain ⟨e1, qf, q6, qc⟩ := q
  cases e1
  refine e_istore dL_law_197 (Nat.le_of_ble_eq_true rfl) rfl rfl ?_
  have hM1 := RM_fr (fun m m0 m1 => qf m (by omega)) hM
  have hc2 : zC l MX9_openSession [zR (some 99)] h1 (QM S h1 kk (zI 0) (zI (S 1 0)) (up S 1 0 (S 1 0 + 1))) := by
    rw [hkk]
    exact c_X9_openSession hl hM1 hN
  refine e_aload_n dL_law_199 rfl rfl ?_
  refine e_callV (As := []) (cb := 10) dL_law_200 moX9_openSession mvX9_openSession mlL_139 (by decide) rfl hM1.1 rfl (Nat.le_of_ble_eq_true rfl) ⟨Nat.le_of_ble_eq_true rfl, Nat.le_of_ble_eq_true rfl, by show k + 10 ≤ 603072; omega, by show n + 242 ≤ 7207018; omega⟩ hc2 (fun E h2 q => by rcases q.2 with ⟨-, z, -⟩ | ⟨-, z, -⟩ <;> cases z) (fun v9 h2 q => ?_)
  obtain ⟨t9, q2⟩ := q
  have hkn : 0 ≤ kk := by rcases qc with z | z <;> omega
  rcases q2 with ⟨k0, e1, hM2⟩ | ⟨k0, e1, hM2⟩
  · cases e1
    obtain ⟨-, qw, qR⟩ := qc.resolve_right (fun z => by omega)
    have hk0 := hkk.symm.trans k0
    obtain ⟨p1, hk1⟩ := kz hk0 (by decide)
    have hI5 : I4 (up S 1 0 (S 1 0 + 1)) (B + 2000) := I4_le (by omega) (I4_openSession hI4 (by omega))
    refine e_istore dL_law_203 (Nat.le_of_ble_eq_true rfl) rfl rfl ?_
    refine e_aload_n dL_law_205 rfl rfl ?_
    refine e_callV (As := []) (cb := 10) dL_law_206 moX9_thrown mvX9_thrown mlL_140 (by decide) rfl hM2.1.1 rfl (Nat.le_of_ble_eq_true rfl) ⟨Nat.le_of_ble_eq_true rfl, Nat.le_of_ble_eq_true rfl, by show k + 10 ≤ 603072; omega, by show n + 242 ≤ 7207018; omega⟩ (c_X9_thrown hl hM2.1) (fun E h9 q => by cases q.1) (fun v9 h9 q => ?_)
    obtain ⟨e1, e2⟩ := q
    cases e1
    rw [e2]
    clear e2 h9
    refine e_G (fun G2 => ?_)
    have z9 : zin kk := by rw [← t9]; exact G2.1 _ _
    rw [t9]
    refine e_iload dL_law_209 rfl ?_
    refine e_icmp_eq (tgt := 216) dL_law_211 (by decide) z9 z9 (fun _ => ?_) (fun c => absurd rfl c)
    refine e_iload dL_law_216 rfl ?_
    refine e_if_ne (tgt := 233) dL_law_218 (by decide) z9 (fun c => absurd k0 c) (fun _ => ?_)
    refine e_aload_n dL_law_221 rfl rfl ?_
    refine e_iconst dL_law_222 ?_
    refine e_lald dL_law_223 ((hM2.2 6 (by decide)).1.trans q6.1) (by decide) (by rw [(hM2.2 6 (by decide)).2.1, q6.2]; decide) (((hM2.2 6 (by decide)).2.2.2.2.2.2.2.1 0).trans qw) ?_
    refine e_iload dL_law_224 rfl ?_
    refine e_i2lw dL_law_226 ?_
    refine e_lcmp_eq dL_law_227 rfl ?_
    refine e_if_eq (tgt := 233) dL_law_228 (by decide) (by decide) (fun _ => ?_) (fun c => absurd rfl c)
    refine e_goto (tgt := 2542) dL_law_233 (by decide) ?_
    refine e_mask [true, true, true, true, true, true, false, false, false] ?_
    refine e_wid (k + 10) (n + 11813) (by show k + 10 ≤ _; omega) (by show n + 242 ≤ _; omega) ?_
    exact K (up S 1 0 (S 1 0 + 1)) h2 ⟨hM2.1, RC_99 hM2.2 qR, hI5, ⟨(hM2.2 6 (by decide)).1.trans q6.1, (hM2.2 6 (by decide)).2.1.trans q6.2⟩, ⟨((hM2.2 7 (by decide)).1.trans (qf 7 (by decide)).1).trans h7.1, ((hM2.2 7 (by decide)).2.1.trans (qf 7 (by decide)).2.1).trans h7.2⟩, by omega⟩
  · cases e1
    have qR := (qc.resolve_left (fun z => by omega)).2
    have hI5 : I4 S (B + 2000) := I4_le (by omega) hI4
    refine e_istore dL_law_203 (Nat.le_of_ble_eq_true rfl) rfl rfl ?_
    refine e_aload_n dL_law_205 rfl rfl ?_
    refine e_callV (As := []) (cb := 10) dL_law_206 moX9_thrown mvX9_thrown mlL_140 (by decide) rfl hM2.1.1 rfl (Nat.le_of_ble_eq_true rfl) ⟨Nat.le_of_ble_eq_true rfl, Nat.le_of_ble_eq_true rfl, by show k + 10 ≤ 603072; omega, by show n + 242 ≤ 7207018; omega⟩ (c_X9_thrown hl hM2.1) (fun E h9 q => by cases q.1) (fun v9 h9 q => ?_)
    obtain ⟨e1, e2⟩ := q
    cases e1
    rw [e2]
    clear e2 h9
    refine e_G (fun G2 => ?_)
    have z9 : zin kk := by rw [← t9]; exact G2.1 _ _
    rw [t9]
    refine e_iload dL_law_209 rfl ?_
    refine e_icmp_eq (tgt := 216) dL_law_211 (by decide) z9 z9 (fun _ => ?_) (fun c => absurd rfl c)
    refine e_iload dL_law_216 rfl ?_
    refine e_if_ne (tgt := 233) dL_law_218 (by decide) z9 (fun _ => ?_) (fun c => absurd c k0)
    refine e_goto (tgt := 2542) dL_law_233 (by decide) ?_
    refine e_mask [true, true, true, true, true, true, false, false, false] ?_
    refine e_wid (k + 10) (n + 11813) (by show k + 10 ≤ _; omega) (by show n + 242 ≤ _; omega) ?_
    exact K S h2 ⟨hM2.1, RC_99 hM2.2 qR, hI5, ⟨(hM2.2 6 (by decide)).1.trans q6.1, (hM2.2 6 (by decide)).2.1.trans q6.2⟩, ⟨((hM2.2 7 (by decide)).1.trans (qf 7 (by decide)).1).trans h7.1, ((hM2.2 7 (by decide)).2.1.trans (qf 7 (by decide)).2.1).trans h7.2⟩, by omega⟩
set_option maxHeartbeats 4000000 in
set_option maxRecDepth 100000 in
theorem cs_openWindow {l : Launch} (hl : l.stackTraces = false) (hG : GMore l) {L : Nat} {f : Nat → Int32} {S : S9} {h : zH} {B i : Int} {k n : Nat} (i0 : 0 ≤ i) (i8 : i + 8 ≤ L) (hk : k + 10 ≤ 603072) (hn : n + 11813 ≤ 7207018) (hB9 : B ≤ 800000000) (hL0 : LI S B h) (K : ∀ S' h', LI S' (B + 2000) h' → AW l (MLW L f) QW (k + 10) (n + 11813) 2542 [zY, zR (some 2), zR (some 99), zR (some 6), zR (some 7), zI i, zX, zX, zX] [] h') : AW l (MLW L f) QW k n 236 [zY, zR (some 2), zR (some 99), zR (some 6), zR (some 7), zI i, zX, zX, zX] [] h := by
  obtain ⟨hM, hR, hI4, h6, h7, hB0⟩ := hL0
  refine e_G (fun G => ?_)
  have hI := II_of G hM hI4
  have hN : IN S := hI4.1.1
  have hIW : IW S := hI4.1.2.1
  have hIO : IO S := hI4.1.2.2.1
  have hIC : IC S := hI4.1.2.2.2.1
  have hIK : IK S := hI4.1.2.2.2.2
  obtain ⟨n1, n2, n3, n4, n5⟩ := id hN
  obtain ⟨s, hes⟩ : ∃ z : Int, z = (f (i + 1).toNat).toInt := ⟨_, rfl⟩
  have hsz : zin s := by rw [hes]; exact ⟨Int32.le_toInt _, Int32.toInt_lt _⟩
  obtain ⟨x, hex⟩ : ∃ z : Int, z = (f (i + 2).toNat).toInt := ⟨_, rfl⟩
  have hxz : zin x := by rw [hex]; exact ⟨Int32.le_toInt _, Int32.toInt_lt _⟩
  obtain ⟨y, hey⟩ : ∃ z : Int, z = (f (i + 3).toNat).toInt := ⟨_, rfl⟩
  have hyz : zin y := by rw [hey]; exact ⟨Int32.le_toInt _, Int32.toInt_lt _⟩
  obtain ⟨a, hea⟩ : ∃ z : Int, z = (f (i + 4).toNat).toInt := ⟨_, rfl⟩
  have haz : zin a := by rw [hea]; exact ⟨Int32.le_toInt _, Int32.toInt_lt _⟩
  obtain ⟨b, heb⟩ : ∃ z : Int, z = (f (i + 5).toNat).toInt := ⟨_, rfl⟩
  have hbz : zin b := by rw [heb]; exact ⟨Int32.le_toInt _, Int32.toInt_lt _⟩
  obtain ⟨kk, hkk⟩ : ∃ kk : Int, kk = (if ¬ isS S s then 1 else if ¬ ((-5 ≤ x ∧ x ≤ 11) ∧ (-5 ≤ y ∧ y ≤ 7) ∧ (1 ≤ a ∧ a ≤ 12) ∧ (1 ≤ b ∧ b ≤ 8)) then 2 else if S 4 s = 6 then 3 else 0) := ⟨_, rfl⟩
  have hc1 := c_L_openWindow hl hR hI h6 s hsz x hxz y hyz a haz b hbz
  rw [← hkk] at hc1
  refine e_aload_n dL_law_236 rfl rfl ?_
  refine e_aloadY dL_law_237 rfl rfl ?_
  refine e_iload dL_law_238 rfl ?_
  refine e_iconst dL_law_240 ?_
  refine e_iadd dL_law_241 ?_
  refine e_sld (L := L) (f := f) rfl dL_law_242 (by omega) (by omega) (fun y9 => ?_)
  rw [← hes] at y9 ⊢
  refine e_aloadY dL_law_243 rfl rfl ?_
  refine e_iload dL_law_244 rfl ?_
  refine e_iconst dL_law_246 ?_
  refine e_iadd dL_law_247 ?_
  refine e_sld (L := L) (f := f) rfl dL_law_248 (by omega) (by omega) (fun y9 => ?_)
  rw [← hex] at y9 ⊢
  refine e_aloadY dL_law_249 rfl rfl ?_
  refine e_iload dL_law_250 rfl ?_
  refine e_iconst dL_law_252 ?_
  refine e_iadd dL_law_253 ?_
  refine e_sld (L := L) (f := f) rfl dL_law_254 (by omega) (by omega) (fun y9 => ?_)
  rw [← hey] at y9 ⊢
  refine e_aloadY dL_law_255 rfl rfl ?_
  refine e_iload dL_law_256 rfl ?_
  refine e_iconst dL_law_258 ?_
  refine e_iadd dL_law_259 ?_
  refine e_sld (L := L) (f := f) rfl dL_law_260 (by omega) (by omega) (fun y9 => ?_)
  rw [← hea] at y9 ⊢
  refine e_aloadY dL_law_261 rfl rfl ?_
  refine e_iload dL_law_262 rfl ?_
  refine e_iconst dL_law_264 ?_
  refine e_iadd dL_law_265 ?_
  refine e_sld (L := L) (f := f) rfl dL_law_266 (by omega) (by omega) (fun y9 => ?_)
  rw [← heb] at y9 ⊢
  refine e_aload_n dL_law_267 rfl rfl ?_
  refine e_callH (As := [zR _, zI _, zI _, zI _, zI _, zI _, zR _]) dL_law_268 hoL_openWindow mlL_143 rfl (Nat.le_of_ble_eq_true rfl) ⟨Nat.le_of_ble_eq_true rfl, Nat.le_of_ble_eq_true rfl, by show k + 6 ≤ 603072; omega, by show n + 164 ≤ 7207018; omega⟩ hc1 (fun E h1 q => (QL_inl q).elim) (fun v9 h1 q => ?_)
  obtain ⟨e1, qf, q6, qc⟩ := q
  cases e1
  refine e_istore dL_law_271 (Nat.le_of_ble_eq_true rfl) rfl rfl ?_
  have hM1 := RM_fr (fun m m0 m1 => qf m (by omega)) hM
  have hc2 : zC l MX9_openWindow [zR (some 99), zI s, zI x, zI y, zI a, zI b] h1 (QM S h1 kk (zI 0) (zI (S 4 s)) (opW S s x y a b)) := by
    rw [hkk]
    exact c_X9_openWindow hl hM1 hN s x y a b hsz hxz hyz haz hbz
  refine e_aload_n dL_law_273 rfl rfl ?_
  refine e_aloadY dL_law_274 rfl rfl ?_
  refine e_iload dL_law_275 rfl ?_
  refine e_iconst dL_law_277 ?_
  refine e_iadd dL_law_278 ?_
  refine e_sld (L := L) (f := f) rfl dL_law_279 (by omega) (by omega) (fun y9 => ?_)
  rw [← hes] at y9 ⊢
  refine e_aloadY dL_law_280 rfl rfl ?_
  refine e_iload dL_law_281 rfl ?_
  refine e_iconst dL_law_283 ?_
  refine e_iadd dL_law_284 ?_
  refine e_sld (L := L) (f := f) rfl dL_law_285 (by omega) (by omega) (fun y9 => ?_)
  rw [← hex] at y9 ⊢
  refine e_aloadY dL_law_286 rfl rfl ?_
  refine e_iload dL_law_287 rfl ?_
  refine e_iconst dL_law_289 ?_
  refine e_iadd dL_law_290 ?_
  refine e_sld (L := L) (f := f) rfl dL_law_291 (by omega) (by omega) (fun y9 => ?_)
  rw [← hey] at y9 ⊢
  refine e_aloadY dL_law_292 rfl rfl ?_
  refine e_iload dL_law_293 rfl ?_
  refine e_iconst dL_law_295 ?_
  refine e_iadd dL_law_296 ?_
  refine e_sld (L := L) (f := f) rfl dL_law_297 (by omega) (by omega) (fun y9 => ?_)
  rw [← hea] at y9 ⊢
  refine e_aloadY dL_law_298 rfl rfl ?_
  refine e_iload dL_law_299 rfl ?_
  refine e_iconst dL_law_301 ?_
  refine e_iadd dL_law_302 ?_
  refine e_sld (L := L) (f := f) rfl dL_law_303 (by omega) (by omega) (fun y9 => ?_)
  rw [← heb] at y9 ⊢
  refine e_callV (As := [zI _, zI _, zI _, zI _, zI _]) (cb := 10) dL_law_304 moX9_openWindow mvX9_openWindow mlL_146 (by decide) rfl hM1.1 rfl (Nat.le_of_ble_eq_true rfl) ⟨Nat.le_of_ble_eq_true rfl, Nat.le_of_ble_eq_true rfl, by show k + 6 ≤ 603072; omega, by show n + 164 ≤ 7207018; omega⟩ hc2 (fun E h2 q => by rcases q.2 with ⟨-, z, -⟩ | ⟨-, z, -⟩ <;> cases z) (fun v9 h2 q => ?_)
  obtain ⟨t9, q2⟩ := q
  have hkn : 0 ≤ kk := by rcases qc with z | z <;> omega
  rcases q2 with ⟨k0, e1, hM2⟩ | ⟨k0, e1, hM2⟩
  · cases e1
    obtain ⟨-, qw, qR⟩ := qc.resolve_right (fun z => by omega)
    have hk0 := hkk.symm.trans k0
    obtain ⟨p1, hk1⟩ := kz hk0 (by decide)
    obtain ⟨p2, hk2⟩ := kz hk1 (by decide)
    obtain ⟨p3, hk3⟩ := kz hk2 (by decide)
    have hI5 : I4 (opW S s x y a b) (B + 2000) := I4_le (by omega) (I4_openWindow hI4 (by omega) (by omega) (by have := n5 s (by omega) (by omega); omega) (by omega) (by omega) (by omega) (by omega))
    refine e_istore dL_law_307 (Nat.le_of_ble_eq_true rfl) rfl rfl ?_
    refine e_aload_n dL_law_309 rfl rfl ?_
    refine e_callV (As := []) (cb := 10) dL_law_310 moX9_thrown mvX9_thrown mlL_140 (by decide) rfl hM2.1.1 rfl (Nat.le_of_ble_eq_true rfl) ⟨Nat.le_of_ble_eq_true rfl, Nat.le_of_ble_eq_true rfl, by show k + 6 ≤ 603072; omega, by show n + 164 ≤ 7207018; omega⟩ (c_X9_thrown hl hM2.1) (fun E h9 q => by cases q.1) (fun v9 h9 q => ?_)
    obtain ⟨e1, e2⟩ := q
    cases e1
    rw [e2]
    clear e2 h9
    refine e_G (fun G2 => ?_)
    have z9 : zin kk := by rw [← t9]; exact G2.1 _ _
    rw [t9]
    refine e_iload dL_law_313 rfl ?_
    refine e_icmp_eq (tgt := 320) dL_law_315 (by decide) z9 z9 (fun _ => ?_) (fun c => absurd rfl c)
    refine e_iload dL_law_320 rfl ?_
    refine e_if_ne (tgt := 337) dL_law_322 (by decide) z9 (fun c => absurd k0 c) (fun _ => ?_)
    refine e_aload_n dL_law_325 rfl rfl ?_
    refine e_iconst dL_law_326 ?_
    refine e_lald dL_law_327 ((hM2.2 6 (by decide)).1.trans q6.1) (by decide) (by rw [(hM2.2 6 (by decide)).2.1, q6.2]; decide) (((hM2.2 6 (by decide)).2.2.2.2.2.2.2.1 0).trans qw) ?_
    refine e_iload dL_law_328 rfl ?_
    refine e_i2lw dL_law_330 ?_
    refine e_lcmp_eq dL_law_331 rfl ?_
    refine e_if_eq (tgt := 337) dL_law_332 (by decide) (by decide) (fun _ => ?_) (fun c => absurd rfl c)
    refine e_goto (tgt := 2542) dL_law_337 (by decide) ?_
    refine e_mask [true, true, true, true, true, true, false, false, false] ?_
    refine e_wid (k + 10) (n + 11813) (by show k + 6 ≤ _; omega) (by show n + 164 ≤ _; omega) ?_
    exact K (opW S s x y a b) h2 ⟨hM2.1, RC_99 hM2.2 qR, hI5, ⟨(hM2.2 6 (by decide)).1.trans q6.1, (hM2.2 6 (by decide)).2.1.trans q6.2⟩, ⟨((hM2.2 7 (by decide)).1.trans (qf 7 (by decide)).1).trans h7.1, ((hM2.2 7 (by decide)).2.1.trans (qf 7 (by decide)).2.1).trans h7.2⟩, by omega⟩
  · cases e1
    have qR := (qc.resolve_left (fun z => by omega)).2
    have hI5 : I4 S (B + 2000) := I4_le (by omega) hI4
    refine e_istore dL_law_307 (Nat.le_of_ble_eq_true rfl) rfl rfl ?_
    refine e_aload_n dL_law_309 rfl rfl ?_
    refine e_callV (As := []) (cb := 10) dL_law_310 moX9_thrown mvX9_thrown mlL_140 (by decide) rfl hM2.1.1 rfl (Nat.le_of_ble_eq_true rfl) ⟨Nat.le_of_ble_eq_true rfl, Nat.le_of_ble_eq_true rfl, by show k + 6 ≤ 603072; omega, by show n + 164 ≤ 7207018; omega⟩ (c_X9_thrown hl hM2.1) (fun E h9 q => by cases q.1) (fun v9 h9 q => ?_)
    obtain ⟨e1, e2⟩ := q
    cases e1
    rw [e2]
    clear e2 h9
    refine e_G (fun G2 => ?_)
    have z9 : zin kk := by rw [← t9]; exact G2.1 _ _
    rw [t9]
    refine e_iload dL_law_313 rfl ?_
    refine e_icmp_eq (tgt := 320) dL_law_315 (by decide) z9 z9 (fun _ => ?_) (fun c => absurd rfl c)
    refine e_iload dL_law_320 rfl ?_
    refine e_if_ne (tgt := 337) dL_law_322 (by decide) z9 (fun _ => ?_) (fun c => absurd c k0)
    refine e_goto (tgt := 2542) dL_law_337 (by decide) ?_
    refine e_mask [true, true, true, true, true, true, false, false, false] ?_
    refine e_wid (k + 10) (n + 11813) (by show k + 6 ≤ _; omega) (by show n + 164 ≤ _; omega) ?_
    exact K S h2 ⟨hM2.1, RC_99 hM2.2 qR, hI5, ⟨(hM2.2 6 (by decide)).1.trans q6.1, (hM2.2 6 (by decide)).2.1.trans q6.2⟩, ⟨((hM2.2 7 (by decide)).1.trans (qf 7 (by decide)).1).trans h7.1, ((hM2.2 7 (by decide)).2.1.trans (qf 7 (by decide)).2.1).trans h7.2⟩, by omega⟩
set_option maxHeartbeats 4000000 in
set_option maxRecDepth 100000 in
theorem cs_closeWindow {l : Launch} (hl : l.stackTraces = false) (hG : GMore l) {L : Nat} {f : Nat → Int32} {S : S9} {h : zH} {B i : Int} {k n : Nat} (i0 : 0 ≤ i) (i8 : i + 8 ≤ L) (hk : k + 10 ≤ 603072) (hn : n + 11813 ≤ 7207018) (hB9 : B ≤ 800000000) (hL0 : LI S B h) (K : ∀ S' h', LI S' (B + 2000) h' → AW l (MLW L f) QW (k + 10) (n + 11813) 2542 [zY, zR (some 2), zR (some 99), zR (some 6), zR (some 7), zI i, zX, zX, zX] [] h') : AW l (MLW L f) QW k n 340 [zY, zR (some 2), zR (some 99), zR (some 6), zR (some 7), zI i, zX, zX, zX] [] h := by
  obtain ⟨hM, hR, hI4, h6, h7, hB0⟩ := hL0
  refine e_G (fun G => ?_)
  have hI := II_of G hM hI4
  have hN : IN S := hI4.1.1
  have hIW : IW S := hI4.1.2.1
  have hIO : IO S := hI4.1.2.2.1
  have hIC : IC S := hI4.1.2.2.2.1
  have hIK : IK S := hI4.1.2.2.2.2
  obtain ⟨n1, n2, n3, n4, n5⟩ := id hN
  obtain ⟨s, hes⟩ : ∃ z : Int, z = (f (i + 1).toNat).toInt := ⟨_, rfl⟩
  have hsz : zin s := by rw [hes]; exact ⟨Int32.le_toInt _, Int32.toInt_lt _⟩
  obtain ⟨w, hew⟩ : ∃ z : Int, z = (f (i + 2).toNat).toInt := ⟨_, rfl⟩
  have hwz : zin w := by rw [hew]; exact ⟨Int32.le_toInt _, Int32.toInt_lt _⟩
  obtain ⟨p, hpp⟩ : ∃ p, isWn S s w → posO S s (6 * s + w) p := by
    by_cases y : isWn S s w
    · obtain ⟨p, hp⟩ := posO_ex hI.2.1 (s := s) (w := 6 * s + w) ⟨by omega, by omega, by omega, by omega⟩ y.2.2.2
      exact ⟨p, fun _ => hp⟩
    · exact ⟨0, fun z => absurd z y⟩
  obtain ⟨kk, hkk⟩ : ∃ kk : Int, kk = (if ¬ isWn S s w then 1 else 0) := ⟨_, rfl⟩
  have hc1 := c_L_closeWindow hl hR hI h6 s hsz w hwz p hpp
  rw [← hkk] at hc1
  refine e_aload_n dL_law_340 rfl rfl ?_
  refine e_aloadY dL_law_341 rfl rfl ?_
  refine e_iload dL_law_342 rfl ?_
  refine e_iconst dL_law_344 ?_
  refine e_iadd dL_law_345 ?_
  refine e_sld (L := L) (f := f) rfl dL_law_346 (by omega) (by omega) (fun y9 => ?_)
  rw [← hes] at y9 ⊢
  refine e_aloadY dL_law_347 rfl rfl ?_
  refine e_iload dL_law_348 rfl ?_
  refine e_iconst dL_law_350 ?_
  refine e_iadd dL_law_351 ?_
  refine e_sld (L := L) (f := f) rfl dL_law_352 (by omega) (by omega) (fun y9 => ?_)
  rw [← hew] at y9 ⊢
  refine e_aload_n dL_law_353 rfl rfl ?_
  refine e_callH (As := [zR _, zI _, zI _, zR _]) dL_law_354 hoL_closeWindow mlL_147 rfl (Nat.le_of_ble_eq_true rfl) ⟨Nat.le_of_ble_eq_true rfl, Nat.le_of_ble_eq_true rfl, by show k + 3 ≤ 603072; omega, by show n + 18 ≤ 7207018; omega⟩ hc1 (fun E h1 q => (QL_inl q).elim) (fun v9 h1 q => ?_)
  obtain ⟨e1, qf, q6, qc⟩ := q
  cases e1
  refine e_istore dL_law_357 (Nat.le_of_ble_eq_true rfl) rfl rfl ?_
  have hM1 := RM_fr (fun m m0 m1 => qf m (by omega)) hM
  have hc2 : zC l MX9_closeWindow [zR (some 99), zI s, zI w] h1 (QM S h1 kk (zI 0) (zI (S 11 (6 * s + w))) (cloS S s (6 * s + w) p)) := by
    rw [hkk]
    exact c_X9_closeWindow hl hM1 hN hIW hIO s w hsz hwz p hpp
  refine e_aload_n dL_law_359 rfl rfl ?_
  refine e_aloadY dL_law_360 rfl rfl ?_
  refine e_iload dL_law_361 rfl ?_
  refine e_iconst dL_law_363 ?_
  refine e_iadd dL_law_364 ?_
  refine e_sld (L := L) (f := f) rfl dL_law_365 (by omega) (by omega) (fun y9 => ?_)
  rw [← hes] at y9 ⊢
  refine e_aloadY dL_law_366 rfl rfl ?_
  refine e_iload dL_law_367 rfl ?_
  refine e_iconst dL_law_369 ?_
  refine e_iadd dL_law_370 ?_
  refine e_sld (L := L) (f := f) rfl dL_law_371 (by omega) (by omega) (fun y9 => ?_)
  rw [← hew] at y9 ⊢
  refine e_callV (As := [zI _, zI _]) (cb := 10) dL_law_372 moX9_closeWindow mvX9_closeWindow mlL_150 (by decide) rfl hM1.1 rfl (Nat.le_of_ble_eq_true rfl) ⟨Nat.le_of_ble_eq_true rfl, Nat.le_of_ble_eq_true rfl, by show k + 3 ≤ 603072; omega, by show n + 18 ≤ 7207018; omega⟩ hc2 (fun E h2 q => by rcases q.2 with ⟨-, z, -⟩ | ⟨-, z, -⟩ <;> cases z) (fun v9 h2 q => ?_)
  obtain ⟨t9, q2⟩ := q
  have hkn : 0 ≤ kk := by rcases qc with z | z <;> omega
  rcases q2 with ⟨k0, e1, hM2⟩ | ⟨k0, e1, hM2⟩
  · cases e1
    obtain ⟨-, qw, qR⟩ := qc.resolve_right (fun z => by omega)
    have hk0 := hkk.symm.trans k0
    obtain ⟨p1, hk1⟩ := kz hk0 (by decide)
    have hI5 : I4 (cloS S s (6 * s + w) p) (B + 2000) := I4_le (by omega) (I4_close hI4 (by omega) (by omega) ⟨by omega, by omega, by omega, by omega⟩ (hpp (Classical.not_not.mp p1)))
    refine e_istore dL_law_375 (Nat.le_of_ble_eq_true rfl) rfl rfl ?_
    refine e_aload_n dL_law_377 rfl rfl ?_
    refine e_callV (As := []) (cb := 10) dL_law_378 moX9_thrown mvX9_thrown mlL_140 (by decide) rfl hM2.1.1 rfl (Nat.le_of_ble_eq_true rfl) ⟨Nat.le_of_ble_eq_true rfl, Nat.le_of_ble_eq_true rfl, by show k + 3 ≤ 603072; omega, by show n + 18 ≤ 7207018; omega⟩ (c_X9_thrown hl hM2.1) (fun E h9 q => by cases q.1) (fun v9 h9 q => ?_)
    obtain ⟨e1, e2⟩ := q
    cases e1
    rw [e2]
    clear e2 h9
    refine e_G (fun G2 => ?_)
    have z9 : zin kk := by rw [← t9]; exact G2.1 _ _
    rw [t9]
    refine e_iload dL_law_381 rfl ?_
    refine e_icmp_eq (tgt := 388) dL_law_383 (by decide) z9 z9 (fun _ => ?_) (fun c => absurd rfl c)
    refine e_iload dL_law_388 rfl ?_
    refine e_if_ne (tgt := 412) dL_law_390 (by decide) z9 (fun c => absurd k0 c) (fun _ => ?_)
    refine e_aload_n dL_law_393 rfl rfl ?_
    refine e_iconst dL_law_394 ?_
    refine e_lald dL_law_395 ((hM2.2 6 (by decide)).1.trans q6.1) (by decide) (by rw [(hM2.2 6 (by decide)).2.1, q6.2]; decide) (((hM2.2 6 (by decide)).2.2.2.2.2.2.2.1 0).trans qw) ?_
    refine e_iload dL_law_396 rfl ?_
    have hz1 : (S 11 (6 * s + w)) = 0 ∨ (S 11 (6 * s + w)) = 1 := (hI.2.2.2.2 11 (by decide) _)
    refine e_bl5 (t0 := 405) (j := 406) dL_law_398 (by decide) dL_law_401 dL_law_402 (by decide) dL_law_405 (by decide) (by omega) ?_
    refine e_lcmp_eq dL_law_406 rfl ?_
    refine e_if_eq (tgt := 412) dL_law_407 (by decide) (by decide) (fun _ => ?_) (fun c => absurd rfl c)
    refine e_goto (tgt := 2542) dL_law_412 (by decide) ?_
    refine e_mask [true, true, true, true, true, true, false, false, false] ?_
    refine e_wid (k + 10) (n + 11813) (by show k + 3 ≤ _; omega) (by show n + 18 ≤ _; omega) ?_
    exact K (cloS S s (6 * s + w) p) h2 ⟨hM2.1, RC_99 hM2.2 qR, hI5, ⟨(hM2.2 6 (by decide)).1.trans q6.1, (hM2.2 6 (by decide)).2.1.trans q6.2⟩, ⟨((hM2.2 7 (by decide)).1.trans (qf 7 (by decide)).1).trans h7.1, ((hM2.2 7 (by decide)).2.1.trans (qf 7 (by decide)).2.1).trans h7.2⟩, by omega⟩
  · cases e1
    have qR := (qc.resolve_left (fun z => by omega)).2
    have hI5 : I4 S (B + 2000) := I4_le (by omega) hI4
    refine e_istore dL_law_375 (Nat.le_of_ble_eq_true rfl) rfl rfl ?_
    refine e_aload_n dL_law_377 rfl rfl ?_
    refine e_callV (As := []) (cb := 10) dL_law_378 moX9_thrown mvX9_thrown mlL_140 (by decide) rfl hM2.1.1 rfl (Nat.le_of_ble_eq_true rfl) ⟨Nat.le_of_ble_eq_true rfl, Nat.le_of_ble_eq_true rfl, by show k + 3 ≤ 603072; omega, by show n + 18 ≤ 7207018; omega⟩ (c_X9_thrown hl hM2.1) (fun E h9 q => by cases q.1) (fun v9 h9 q => ?_)
    obtain ⟨e1, e2⟩ := q
    cases e1
    rw [e2]
    clear e2 h9
    refine e_G (fun G2 => ?_)
    have z9 : zin kk := by rw [← t9]; exact G2.1 _ _
    rw [t9]
    refine e_iload dL_law_381 rfl ?_
    refine e_icmp_eq (tgt := 388) dL_law_383 (by decide) z9 z9 (fun _ => ?_) (fun c => absurd rfl c)
    refine e_iload dL_law_388 rfl ?_
    refine e_if_ne (tgt := 412) dL_law_390 (by decide) z9 (fun _ => ?_) (fun c => absurd c k0)
    refine e_goto (tgt := 2542) dL_law_412 (by decide) ?_
    refine e_mask [true, true, true, true, true, true, false, false, false] ?_
    refine e_wid (k + 10) (n + 11813) (by show k + 3 ≤ _; omega) (by show n + 18 ≤ _; omega) ?_
    exact K S h2 ⟨hM2.1, RC_99 hM2.2 qR, hI5, ⟨(hM2.2 6 (by decide)).1.trans q6.1, (hM2.2 6 (by decide)).2.1.trans q6.2⟩, ⟨((hM2.2 7 (by decide)).1.trans (qf 7 (by decide)).1).trans h7.1, ((hM2.2 7 (by decide)).2.1.trans (qf 7 (by decide)).2.1).trans h7.2⟩, by omega⟩
set_option maxHeartbeats 4000000 in
set_option maxRecDepth 100000 in
theorem cs_moveWindow {l : Launch} (hl : l.stackTraces = false) (hG : GMore l) {L : Nat} {f : Nat → Int32} {S : S9} {h : zH} {B i : Int} {k n : Nat} (i0 : 0 ≤ i) (i8 : i + 8 ≤ L) (hk : k + 10 ≤ 603072) (hn : n + 11813 ≤ 7207018) (hB9 : B ≤ 800000000) (hL0 : LI S B h) (K : ∀ S' h', LI S' (B + 2000) h' → AW l (MLW L f) QW (k + 10) (n + 11813) 2542 [zY, zR (some 2), zR (some 99), zR (some 6), zR (some 7), zI i, zX, zX, zX] [] h') : AW l (MLW L f) QW k n 415 [zY, zR (some 2), zR (some 99), zR (some 6), zR (some 7), zI i, zX, zX, zX] [] h := by
  obtain ⟨hM, hR, hI4, h6, h7, hB0⟩ := hL0
  refine e_G (fun G => ?_)
  have hI := II_of G hM hI4
  have hN : IN S := hI4.1.1
  have hIW : IW S := hI4.1.2.1
  have hIO : IO S := hI4.1.2.2.1
  have hIC : IC S := hI4.1.2.2.2.1
  have hIK : IK S := hI4.1.2.2.2.2
  obtain ⟨n1, n2, n3, n4, n5⟩ := id hN
  obtain ⟨s, hes⟩ : ∃ z : Int, z = (f (i + 1).toNat).toInt := ⟨_, rfl⟩
  have hsz : zin s := by rw [hes]; exact ⟨Int32.le_toInt _, Int32.toInt_lt _⟩
  obtain ⟨w, hew⟩ : ∃ z : Int, z = (f (i + 2).toNat).toInt := ⟨_, rfl⟩
  have hwz : zin w := by rw [hew]; exact ⟨Int32.le_toInt _, Int32.toInt_lt _⟩
  obtain ⟨x, hex⟩ : ∃ z : Int, z = (f (i + 3).toNat).toInt := ⟨_, rfl⟩
  have hxz : zin x := by rw [hex]; exact ⟨Int32.le_toInt _, Int32.toInt_lt _⟩
  obtain ⟨y, hey⟩ : ∃ z : Int, z = (f (i + 4).toNat).toInt := ⟨_, rfl⟩
  have hyz : zin y := by rw [hey]; exact ⟨Int32.le_toInt _, Int32.toInt_lt _⟩
  obtain ⟨kk, hkk⟩ : ∃ kk : Int, kk = (if ¬ isWn S s w then 1 else if ¬ ((-5 ≤ x ∧ x ≤ 11) ∧ (-5 ≤ y ∧ y ≤ 7)) then 2 else 0) := ⟨_, rfl⟩
  have hc1 := c_L_moveWindow hl hR hI h6 s hsz w hwz x hxz y hyz
  rw [← hkk] at hc1
  refine e_aload_n dL_law_415 rfl rfl ?_
  refine e_aloadY dL_law_416 rfl rfl ?_
  refine e_iload dL_law_417 rfl ?_
  refine e_iconst dL_law_419 ?_
  refine e_iadd dL_law_420 ?_
  refine e_sld (L := L) (f := f) rfl dL_law_421 (by omega) (by omega) (fun y9 => ?_)
  rw [← hes] at y9 ⊢
  refine e_aloadY dL_law_422 rfl rfl ?_
  refine e_iload dL_law_423 rfl ?_
  refine e_iconst dL_law_425 ?_
  refine e_iadd dL_law_426 ?_
  refine e_sld (L := L) (f := f) rfl dL_law_427 (by omega) (by omega) (fun y9 => ?_)
  rw [← hew] at y9 ⊢
  refine e_aloadY dL_law_428 rfl rfl ?_
  refine e_iload dL_law_429 rfl ?_
  refine e_iconst dL_law_431 ?_
  refine e_iadd dL_law_432 ?_
  refine e_sld (L := L) (f := f) rfl dL_law_433 (by omega) (by omega) (fun y9 => ?_)
  rw [← hex] at y9 ⊢
  refine e_aloadY dL_law_434 rfl rfl ?_
  refine e_iload dL_law_435 rfl ?_
  refine e_iconst dL_law_437 ?_
  refine e_iadd dL_law_438 ?_
  refine e_sld (L := L) (f := f) rfl dL_law_439 (by omega) (by omega) (fun y9 => ?_)
  rw [← hey] at y9 ⊢
  refine e_aload_n dL_law_440 rfl rfl ?_
  refine e_callH (As := [zR _, zI _, zI _, zI _, zI _, zR _]) dL_law_441 hoL_moveWindow mlL_151 rfl (Nat.le_of_ble_eq_true rfl) ⟨Nat.le_of_ble_eq_true rfl, Nat.le_of_ble_eq_true rfl, by show k + 4 ≤ 603072; omega, by show n + 24 ≤ 7207018; omega⟩ hc1 (fun E h1 q => (QL_inl q).elim) (fun v9 h1 q => ?_)
  obtain ⟨e1, qf, q6, qc⟩ := q
  cases e1
  refine e_istore dL_law_444 (Nat.le_of_ble_eq_true rfl) rfl rfl ?_
  have hM1 := RM_fr (fun m m0 m1 => qf m (by omega)) hM
  have hc2 : zC l MX9_moveWindow [zR (some 99), zI s, zI w, zI x, zI y] h1 (QM S h1 kk (zI 0) (zI (movN S (movS S (6 * s + w) x y) s)) (movS S (6 * s + w) x y)) := by
    rw [hkk]
    exact c_X9_moveWindow hl hM1 hN hIW hIO s w hsz hwz x y hxz hyz
  refine e_aload_n dL_law_446 rfl rfl ?_
  refine e_aloadY dL_law_447 rfl rfl ?_
  refine e_iload dL_law_448 rfl ?_
  refine e_iconst dL_law_450 ?_
  refine e_iadd dL_law_451 ?_
  refine e_sld (L := L) (f := f) rfl dL_law_452 (by omega) (by omega) (fun y9 => ?_)
  rw [← hes] at y9 ⊢
  refine e_aloadY dL_law_453 rfl rfl ?_
  refine e_iload dL_law_454 rfl ?_
  refine e_iconst dL_law_456 ?_
  refine e_iadd dL_law_457 ?_
  refine e_sld (L := L) (f := f) rfl dL_law_458 (by omega) (by omega) (fun y9 => ?_)
  rw [← hew] at y9 ⊢
  refine e_aloadY dL_law_459 rfl rfl ?_
  refine e_iload dL_law_460 rfl ?_
  refine e_iconst dL_law_462 ?_
  refine e_iadd dL_law_463 ?_
  refine e_sld (L := L) (f := f) rfl dL_law_464 (by omega) (by omega) (fun y9 => ?_)
  rw [← hex] at y9 ⊢
  refine e_aloadY dL_law_465 rfl rfl ?_
  refine e_iload dL_law_466 rfl ?_
  refine e_iconst dL_law_468 ?_
  refine e_iadd dL_law_469 ?_
  refine e_sld (L := L) (f := f) rfl dL_law_470 (by omega) (by omega) (fun y9 => ?_)
  rw [← hey] at y9 ⊢
  refine e_callV (As := [zI _, zI _, zI _, zI _]) (cb := 10) dL_law_471 moX9_moveWindow mvX9_moveWindow mlL_154 (by decide) rfl hM1.1 rfl (Nat.le_of_ble_eq_true rfl) ⟨Nat.le_of_ble_eq_true rfl, Nat.le_of_ble_eq_true rfl, by show k + 4 ≤ 603072; omega, by show n + 24 ≤ 7207018; omega⟩ hc2 (fun E h2 q => by rcases q.2 with ⟨-, z, -⟩ | ⟨-, z, -⟩ <;> cases z) (fun v9 h2 q => ?_)
  obtain ⟨t9, q2⟩ := q
  have hkn : 0 ≤ kk := by rcases qc with z | z <;> omega
  rcases q2 with ⟨k0, e1, hM2⟩ | ⟨k0, e1, hM2⟩
  · cases e1
    obtain ⟨-, qw, qR⟩ := qc.resolve_right (fun z => by omega)
    have hk0 := hkk.symm.trans k0
    obtain ⟨p1, hk1⟩ := kz hk0 (by decide)
    obtain ⟨p2, hk2⟩ := kz hk1 (by decide)
    have hI5 : I4 (movS S (6 * s + w) x y) (B + 2000) := I4_le (by omega) (I4_moveWindow hI4 (by omega) (by omega))
    refine e_istore dL_law_474 (Nat.le_of_ble_eq_true rfl) rfl rfl ?_
    refine e_aload_n dL_law_476 rfl rfl ?_
    refine e_callV (As := []) (cb := 10) dL_law_477 moX9_thrown mvX9_thrown mlL_140 (by decide) rfl hM2.1.1 rfl (Nat.le_of_ble_eq_true rfl) ⟨Nat.le_of_ble_eq_true rfl, Nat.le_of_ble_eq_true rfl, by show k + 4 ≤ 603072; omega, by show n + 24 ≤ 7207018; omega⟩ (c_X9_thrown hl hM2.1) (fun E h9 q => by cases q.1) (fun v9 h9 q => ?_)
    obtain ⟨e1, e2⟩ := q
    cases e1
    rw [e2]
    clear e2 h9
    refine e_G (fun G2 => ?_)
    have z9 : zin kk := by rw [← t9]; exact G2.1 _ _
    rw [t9]
    refine e_iload dL_law_480 rfl ?_
    refine e_icmp_eq (tgt := 487) dL_law_482 (by decide) z9 z9 (fun _ => ?_) (fun c => absurd rfl c)
    refine e_iload dL_law_487 rfl ?_
    refine e_if_ne (tgt := 504) dL_law_489 (by decide) z9 (fun c => absurd k0 c) (fun _ => ?_)
    refine e_aload_n dL_law_492 rfl rfl ?_
    refine e_iconst dL_law_493 ?_
    refine e_lald dL_law_494 ((hM2.2 6 (by decide)).1.trans q6.1) (by decide) (by rw [(hM2.2 6 (by decide)).2.1, q6.2]; decide) (((hM2.2 6 (by decide)).2.2.2.2.2.2.2.1 0).trans qw) ?_
    refine e_iload dL_law_495 rfl ?_
    refine e_i2lw dL_law_497 ?_
    refine e_lcmp_eq dL_law_498 rfl ?_
    refine e_if_eq (tgt := 504) dL_law_499 (by decide) (by decide) (fun _ => ?_) (fun c => absurd rfl c)
    refine e_goto (tgt := 2542) dL_law_504 (by decide) ?_
    refine e_mask [true, true, true, true, true, true, false, false, false] ?_
    refine e_wid (k + 10) (n + 11813) (by show k + 4 ≤ _; omega) (by show n + 24 ≤ _; omega) ?_
    exact K (movS S (6 * s + w) x y) h2 ⟨hM2.1, RC_99 hM2.2 qR, hI5, ⟨(hM2.2 6 (by decide)).1.trans q6.1, (hM2.2 6 (by decide)).2.1.trans q6.2⟩, ⟨((hM2.2 7 (by decide)).1.trans (qf 7 (by decide)).1).trans h7.1, ((hM2.2 7 (by decide)).2.1.trans (qf 7 (by decide)).2.1).trans h7.2⟩, by omega⟩
  · cases e1
    have qR := (qc.resolve_left (fun z => by omega)).2
    have hI5 : I4 S (B + 2000) := I4_le (by omega) hI4
    refine e_istore dL_law_474 (Nat.le_of_ble_eq_true rfl) rfl rfl ?_
    refine e_aload_n dL_law_476 rfl rfl ?_
    refine e_callV (As := []) (cb := 10) dL_law_477 moX9_thrown mvX9_thrown mlL_140 (by decide) rfl hM2.1.1 rfl (Nat.le_of_ble_eq_true rfl) ⟨Nat.le_of_ble_eq_true rfl, Nat.le_of_ble_eq_true rfl, by show k + 4 ≤ 603072; omega, by show n + 24 ≤ 7207018; omega⟩ (c_X9_thrown hl hM2.1) (fun E h9 q => by cases q.1) (fun v9 h9 q => ?_)
    obtain ⟨e1, e2⟩ := q
    cases e1
    rw [e2]
    clear e2 h9
    refine e_G (fun G2 => ?_)
    have z9 : zin kk := by rw [← t9]; exact G2.1 _ _
    rw [t9]
    refine e_iload dL_law_480 rfl ?_
    refine e_icmp_eq (tgt := 487) dL_law_482 (by decide) z9 z9 (fun _ => ?_) (fun c => absurd rfl c)
    refine e_iload dL_law_487 rfl ?_
    refine e_if_ne (tgt := 504) dL_law_489 (by decide) z9 (fun _ => ?_) (fun c => absurd c k0)
    refine e_goto (tgt := 2542) dL_law_504 (by decide) ?_
    refine e_mask [true, true, true, true, true, true, false, false, false] ?_
    refine e_wid (k + 10) (n + 11813) (by show k + 4 ≤ _; omega) (by show n + 24 ≤ _; omega) ?_
    exact K S h2 ⟨hM2.1, RC_99 hM2.2 qR, hI5, ⟨(hM2.2 6 (by decide)).1.trans q6.1, (hM2.2 6 (by decide)).2.1.trans q6.2⟩, ⟨((hM2.2 7 (by decide)).1.trans (qf 7 (by decide)).1).trans h7.1, ((hM2.2 7 (by decide)).2.1.trans (qf 7 (by decide)).2.1).trans h7.2⟩, by omega⟩
set_option maxHeartbeats 4000000 in
set_option maxRecDepth 100000 in
theorem cs_raise {l : Launch} (hl : l.stackTraces = false) (hG : GMore l) {L : Nat} {f : Nat → Int32} {S : S9} {h : zH} {B i : Int} {k n : Nat} (i0 : 0 ≤ i) (i8 : i + 8 ≤ L) (hk : k + 10 ≤ 603072) (hn : n + 11813 ≤ 7207018) (hB9 : B ≤ 800000000) (hL0 : LI S B h) (K : ∀ S' h', LI S' (B + 2000) h' → AW l (MLW L f) QW (k + 10) (n + 11813) 2542 [zY, zR (some 2), zR (some 99), zR (some 6), zR (some 7), zI i, zX, zX, zX] [] h') : AW l (MLW L f) QW k n 507 [zY, zR (some 2), zR (some 99), zR (some 6), zR (some 7), zI i, zX, zX, zX] [] h := by
  obtain ⟨hM, hR, hI4, h6, h7, hB0⟩ := hL0
  refine e_G (fun G => ?_)
  have hI := II_of G hM hI4
  have hN : IN S := hI4.1.1
  have hIW : IW S := hI4.1.2.1
  have hIO : IO S := hI4.1.2.2.1
  have hIC : IC S := hI4.1.2.2.2.1
  have hIK : IK S := hI4.1.2.2.2.2
  obtain ⟨n1, n2, n3, n4, n5⟩ := id hN
  obtain ⟨s, hes⟩ : ∃ z : Int, z = (f (i + 1).toNat).toInt := ⟨_, rfl⟩
  have hsz : zin s := by rw [hes]; exact ⟨Int32.le_toInt _, Int32.toInt_lt _⟩
  obtain ⟨w, hew⟩ : ∃ z : Int, z = (f (i + 2).toNat).toInt := ⟨_, rfl⟩
  have hwz : zin w := by rw [hew]; exact ⟨Int32.le_toInt _, Int32.toInt_lt _⟩
  obtain ⟨p, hpp⟩ : ∃ p, isWn S s w → posO S s (6 * s + w) p := by
    by_cases y : isWn S s w
    · obtain ⟨p, hp⟩ := posO_ex hI.2.1 (s := s) (w := 6 * s + w) ⟨by omega, by omega, by omega, by omega⟩ y.2.2.2
      exact ⟨p, fun _ => hp⟩
    · exact ⟨0, fun z => absurd z y⟩
  obtain ⟨kk, hkk⟩ : ∃ kk : Int, kk = (if ¬ isWn S s w then 1 else 0) := ⟨_, rfl⟩
  have hc1 := c_L_raise hl hR hI h6 s hsz w hwz p hpp
  rw [← hkk] at hc1
  refine e_aload_n dL_law_507 rfl rfl ?_
  refine e_aloadY dL_law_508 rfl rfl ?_
  refine e_iload dL_law_509 rfl ?_
  refine e_iconst dL_law_511 ?_
  refine e_iadd dL_law_512 ?_
  refine e_sld (L := L) (f := f) rfl dL_law_513 (by omega) (by omega) (fun y9 => ?_)
  rw [← hes] at y9 ⊢
  refine e_aloadY dL_law_514 rfl rfl ?_
  refine e_iload dL_law_515 rfl ?_
  refine e_iconst dL_law_517 ?_
  refine e_iadd dL_law_518 ?_
  refine e_sld (L := L) (f := f) rfl dL_law_519 (by omega) (by omega) (fun y9 => ?_)
  rw [← hew] at y9 ⊢
  refine e_aload_n dL_law_520 rfl rfl ?_
  refine e_callH (As := [zR _, zI _, zI _, zR _]) dL_law_521 hoL_raise mlL_155 rfl (Nat.le_of_ble_eq_true rfl) ⟨Nat.le_of_ble_eq_true rfl, Nat.le_of_ble_eq_true rfl, by show k + 4 ≤ 603072; omega, by show n + 58 ≤ 7207018; omega⟩ hc1 (fun E h1 q => (QL_inl q).elim) (fun v9 h1 q => ?_)
  obtain ⟨e1, qf, q6, qc⟩ := q
  cases e1
  refine e_istore dL_law_524 (Nat.le_of_ble_eq_true rfl) rfl rfl ?_
  have hM1 := RM_fr (fun m m0 m1 => qf m (by omega)) hM
  have hc2 : zC l MX9_raise [zR (some 99), zI s, zI w] h1 (QM S h1 kk (zI 0) (zI (b2 (S 15 (6 * s + S 16 s - 1) ≠ 6 * s + w))) (raiS S s (6 * s + w) p)) := by
    rw [hkk]
    exact c_X9_raise hl hM1 hN hIW hIO s w hsz hwz p hpp
  refine e_aload_n dL_law_526 rfl rfl ?_
  refine e_aloadY dL_law_527 rfl rfl ?_
  refine e_iload dL_law_528 rfl ?_
  refine e_iconst dL_law_530 ?_
  refine e_iadd dL_law_531 ?_
  refine e_sld (L := L) (f := f) rfl dL_law_532 (by omega) (by omega) (fun y9 => ?_)
  rw [← hes] at y9 ⊢
  refine e_aloadY dL_law_533 rfl rfl ?_
  refine e_iload dL_law_534 rfl ?_
  refine e_iconst dL_law_536 ?_
  refine e_iadd dL_law_537 ?_
  refine e_sld (L := L) (f := f) rfl dL_law_538 (by omega) (by omega) (fun y9 => ?_)
  rw [← hew] at y9 ⊢
  refine e_callV (As := [zI _, zI _]) (cb := 10) dL_law_539 moX9_raise mvX9_raise mlL_157 (by decide) rfl hM1.1 rfl (Nat.le_of_ble_eq_true rfl) ⟨Nat.le_of_ble_eq_true rfl, Nat.le_of_ble_eq_true rfl, by show k + 4 ≤ 603072; omega, by show n + 58 ≤ 7207018; omega⟩ hc2 (fun E h2 q => by rcases q.2 with ⟨-, z, -⟩ | ⟨-, z, -⟩ <;> cases z) (fun v9 h2 q => ?_)
  obtain ⟨t9, q2⟩ := q
  have hkn : 0 ≤ kk := by rcases qc with z | z <;> omega
  rcases q2 with ⟨k0, e1, hM2⟩ | ⟨k0, e1, hM2⟩
  · cases e1
    obtain ⟨-, qw, qR⟩ := qc.resolve_right (fun z => by omega)
    have hk0 := hkk.symm.trans k0
    obtain ⟨p1, hk1⟩ := kz hk0 (by decide)
    have hI5 : I4 (raiS S s (6 * s + w) p) (B + 2000) := I4_le (by omega) (I4_raise hI4 (by omega) (by omega) ⟨by omega, by omega, by omega, by omega⟩ (by omega) (hpp (Classical.not_not.mp p1)))
    refine e_istore dL_law_542 (Nat.le_of_ble_eq_true rfl) rfl rfl ?_
    refine e_aload_n dL_law_544 rfl rfl ?_
    refine e_callV (As := []) (cb := 10) dL_law_545 moX9_thrown mvX9_thrown mlL_140 (by decide) rfl hM2.1.1 rfl (Nat.le_of_ble_eq_true rfl) ⟨Nat.le_of_ble_eq_true rfl, Nat.le_of_ble_eq_true rfl, by show k + 4 ≤ 603072; omega, by show n + 58 ≤ 7207018; omega⟩ (c_X9_thrown hl hM2.1) (fun E h9 q => by cases q.1) (fun v9 h9 q => ?_)
    obtain ⟨e1, e2⟩ := q
    cases e1
    rw [e2]
    clear e2 h9
    refine e_G (fun G2 => ?_)
    have z9 : zin kk := by rw [← t9]; exact G2.1 _ _
    rw [t9]
    refine e_iload dL_law_548 rfl ?_
    refine e_icmp_eq (tgt := 555) dL_law_550 (by decide) z9 z9 (fun _ => ?_) (fun c => absurd rfl c)
    refine e_iload dL_law_555 rfl ?_
    refine e_if_ne (tgt := 579) dL_law_557 (by decide) z9 (fun c => absurd k0 c) (fun _ => ?_)
    refine e_aload_n dL_law_560 rfl rfl ?_
    refine e_iconst dL_law_561 ?_
    refine e_lald dL_law_562 ((hM2.2 6 (by decide)).1.trans q6.1) (by decide) (by rw [(hM2.2 6 (by decide)).2.1, q6.2]; decide) (((hM2.2 6 (by decide)).2.2.2.2.2.2.2.1 0).trans qw) ?_
    refine e_iload dL_law_563 rfl ?_
    have hz1 : (b2 (S 15 (6 * s + S 16 s - 1) ≠ 6 * s + w)) = 0 ∨ (b2 (S 15 (6 * s + S 16 s - 1) ≠ 6 * s + w)) = 1 := b2_01
    refine e_bl5 (t0 := 572) (j := 573) dL_law_565 (by decide) dL_law_568 dL_law_569 (by decide) dL_law_572 (by decide) (by omega) ?_
    refine e_lcmp_eq dL_law_573 rfl ?_
    refine e_if_eq (tgt := 579) dL_law_574 (by decide) (by decide) (fun _ => ?_) (fun c => absurd rfl c)
    refine e_goto (tgt := 2542) dL_law_579 (by decide) ?_
    refine e_mask [true, true, true, true, true, true, false, false, false] ?_
    refine e_wid (k + 10) (n + 11813) (by show k + 4 ≤ _; omega) (by show n + 58 ≤ _; omega) ?_
    exact K (raiS S s (6 * s + w) p) h2 ⟨hM2.1, RC_99 hM2.2 qR, hI5, ⟨(hM2.2 6 (by decide)).1.trans q6.1, (hM2.2 6 (by decide)).2.1.trans q6.2⟩, ⟨((hM2.2 7 (by decide)).1.trans (qf 7 (by decide)).1).trans h7.1, ((hM2.2 7 (by decide)).2.1.trans (qf 7 (by decide)).2.1).trans h7.2⟩, by omega⟩
  · cases e1
    have qR := (qc.resolve_left (fun z => by omega)).2
    have hI5 : I4 S (B + 2000) := I4_le (by omega) hI4
    refine e_istore dL_law_542 (Nat.le_of_ble_eq_true rfl) rfl rfl ?_
    refine e_aload_n dL_law_544 rfl rfl ?_
    refine e_callV (As := []) (cb := 10) dL_law_545 moX9_thrown mvX9_thrown mlL_140 (by decide) rfl hM2.1.1 rfl (Nat.le_of_ble_eq_true rfl) ⟨Nat.le_of_ble_eq_true rfl, Nat.le_of_ble_eq_true rfl, by show k + 4 ≤ 603072; omega, by show n + 58 ≤ 7207018; omega⟩ (c_X9_thrown hl hM2.1) (fun E h9 q => by cases q.1) (fun v9 h9 q => ?_)
    obtain ⟨e1, e2⟩ := q
    cases e1
    rw [e2]
    clear e2 h9
    refine e_G (fun G2 => ?_)
    have z9 : zin kk := by rw [← t9]; exact G2.1 _ _
    rw [t9]
    refine e_iload dL_law_548 rfl ?_
    refine e_icmp_eq (tgt := 555) dL_law_550 (by decide) z9 z9 (fun _ => ?_) (fun c => absurd rfl c)
    refine e_iload dL_law_555 rfl ?_
    refine e_if_ne (tgt := 579) dL_law_557 (by decide) z9 (fun _ => ?_) (fun c => absurd c k0)
    refine e_goto (tgt := 2542) dL_law_579 (by decide) ?_
    refine e_mask [true, true, true, true, true, true, false, false, false] ?_
    refine e_wid (k + 10) (n + 11813) (by show k + 4 ≤ _; omega) (by show n + 58 ≤ _; omega) ?_
    exact K S h2 ⟨hM2.1, RC_99 hM2.2 qR, hI5, ⟨(hM2.2 6 (by decide)).1.trans q6.1, (hM2.2 6 (by decide)).2.1.trans q6.2⟩, ⟨((hM2.2 7 (by decide)).1.trans (qf 7 (by decide)).1).trans h7.1, ((hM2.2 7 (by decide)).2.1.trans (qf 7 (by decide)).2.1).trans h7.2⟩, by omega⟩
set_option maxHeartbeats 4000000 in
set_option maxRecDepth 100000 in
theorem cs_show {l : Launch} (hl : l.stackTraces = false) (hG : GMore l) {L : Nat} {f : Nat → Int32} {S : S9} {h : zH} {B i : Int} {k n : Nat} (i0 : 0 ≤ i) (i8 : i + 8 ≤ L) (hk : k + 10 ≤ 603072) (hn : n + 11813 ≤ 7207018) (hB9 : B ≤ 800000000) (hL0 : LI S B h) (K : ∀ S' h', LI S' (B + 2000) h' → AW l (MLW L f) QW (k + 10) (n + 11813) 2542 [zY, zR (some 2), zR (some 99), zR (some 6), zR (some 7), zI i, zX, zX, zX] [] h') : AW l (MLW L f) QW k n 582 [zY, zR (some 2), zR (some 99), zR (some 6), zR (some 7), zI i, zX, zX, zX] [] h := by
  obtain ⟨hM, hR, hI4, h6, h7, hB0⟩ := hL0
  refine e_G (fun G => ?_)
  have hI := II_of G hM hI4
  have hN : IN S := hI4.1.1
  have hIW : IW S := hI4.1.2.1
  have hIO : IO S := hI4.1.2.2.1
  have hIC : IC S := hI4.1.2.2.2.1
  have hIK : IK S := hI4.1.2.2.2.2
  obtain ⟨n1, n2, n3, n4, n5⟩ := id hN
  obtain ⟨s, hes⟩ : ∃ z : Int, z = (f (i + 1).toNat).toInt := ⟨_, rfl⟩
  have hsz : zin s := by rw [hes]; exact ⟨Int32.le_toInt _, Int32.toInt_lt _⟩
  obtain ⟨w, hew⟩ : ∃ z : Int, z = (f (i + 2).toNat).toInt := ⟨_, rfl⟩
  have hwz : zin w := by rw [hew]; exact ⟨Int32.le_toInt _, Int32.toInt_lt _⟩
  obtain ⟨qv, hqv⟩ : ∃ z : Int, z = (f (i + 3).toNat).toInt := ⟨_, rfl⟩
  obtain ⟨v, hev⟩ : ∃ z : Int, z = (if qv = 0 then 0 else 1) := ⟨_, rfl⟩
  have hv : v = 0 ∨ v = 1 := by rw [hev]; exact b5_01
  obtain ⟨kk, hkk⟩ : ∃ kk : Int, kk = (if ¬ isWn S s w then 1 else 0) := ⟨_, rfl⟩
  have hc1 := c_L_show hl hR hI h6 s hsz w hwz v hv
  rw [← hkk] at hc1
  refine e_aload_n dL_law_582 rfl rfl ?_
  refine e_aloadY dL_law_583 rfl rfl ?_
  refine e_iload dL_law_584 rfl ?_
  refine e_iconst dL_law_586 ?_
  refine e_iadd dL_law_587 ?_
  refine e_sld (L := L) (f := f) rfl dL_law_588 (by omega) (by omega) (fun y9 => ?_)
  rw [← hes] at y9 ⊢
  refine e_aloadY dL_law_589 rfl rfl ?_
  refine e_iload dL_law_590 rfl ?_
  refine e_iconst dL_law_592 ?_
  refine e_iadd dL_law_593 ?_
  refine e_sld (L := L) (f := f) rfl dL_law_594 (by omega) (by omega) (fun y9 => ?_)
  rw [← hew] at y9 ⊢
  refine e_aloadY dL_law_595 rfl rfl ?_
  refine e_iload dL_law_596 rfl ?_
  refine e_iconst dL_law_598 ?_
  refine e_iadd dL_law_599 ?_
  refine e_sld (L := L) (f := f) rfl dL_law_600 (by omega) (by omega) (fun y9 => ?_)
  rw [← hqv] at y9 ⊢
  refine e_b5 (t0 := 608) (j := 609) dL_law_601 (by decide) dL_law_604 dL_law_605 (by decide) dL_law_608 (by decide) y9 ?_
  rw [← hev]
  refine e_aload_n dL_law_609 rfl rfl ?_
  refine e_callH (As := [zR _, zI _, zI _, zI _, zR _]) dL_law_610 hoL_show mlL_158 rfl (Nat.le_of_ble_eq_true rfl) ⟨Nat.le_of_ble_eq_true rfl, Nat.le_of_ble_eq_true rfl, by show k + 3 ≤ 603072; omega, by show n + 18 ≤ 7207018; omega⟩ hc1 (fun E h1 q => (QL_inl q).elim) (fun v9 h1 q => ?_)
  obtain ⟨e1, qf, q6, qc⟩ := q
  cases e1
  refine e_istore dL_law_613 (Nat.le_of_ble_eq_true rfl) rfl rfl ?_
  have hM1 := RM_fr (fun m m0 m1 => qf m (by omega)) hM
  have hc2 : zC l MX9_show [zR (some 99), zI s, zI w, zI v] h1 (QM S h1 kk (zI 0) (zI (S 11 (6 * s + w))) (up S 11 (6 * s + w) v)) := by
    rw [hkk]
    exact c_X9_show hl hM1 hN hIW hIO s w hsz hwz v hv
  refine e_aload_n dL_law_615 rfl rfl ?_
  refine e_aloadY dL_law_616 rfl rfl ?_
  refine e_iload dL_law_617 rfl ?_
  refine e_iconst dL_law_619 ?_
  refine e_iadd dL_law_620 ?_
  refine e_sld (L := L) (f := f) rfl dL_law_621 (by omega) (by omega) (fun y9 => ?_)
  rw [← hes] at y9 ⊢
  refine e_aloadY dL_law_622 rfl rfl ?_
  refine e_iload dL_law_623 rfl ?_
  refine e_iconst dL_law_625 ?_
  refine e_iadd dL_law_626 ?_
  refine e_sld (L := L) (f := f) rfl dL_law_627 (by omega) (by omega) (fun y9 => ?_)
  rw [← hew] at y9 ⊢
  refine e_aloadY dL_law_628 rfl rfl ?_
  refine e_iload dL_law_629 rfl ?_
  refine e_iconst dL_law_631 ?_
  refine e_iadd dL_law_632 ?_
  refine e_sld (L := L) (f := f) rfl dL_law_633 (by omega) (by omega) (fun y9 => ?_)
  rw [← hqv] at y9 ⊢
  refine e_b5 (t0 := 641) (j := 642) dL_law_634 (by decide) dL_law_637 dL_law_638 (by decide) dL_law_641 (by decide) y9 ?_
  rw [← hev]
  refine e_callV (As := [zI _, zI _, zI _]) (cb := 10) dL_law_642 moX9_show mvX9_show mlL_161 (by decide) rfl hM1.1 rfl (Nat.le_of_ble_eq_true rfl) ⟨Nat.le_of_ble_eq_true rfl, Nat.le_of_ble_eq_true rfl, by show k + 3 ≤ 603072; omega, by show n + 18 ≤ 7207018; omega⟩ hc2 (fun E h2 q => by rcases q.2 with ⟨-, z, -⟩ | ⟨-, z, -⟩ <;> cases z) (fun v9 h2 q => ?_)
  obtain ⟨t9, q2⟩ := q
  have hkn : 0 ≤ kk := by rcases qc with z | z <;> omega
  rcases q2 with ⟨k0, e1, hM2⟩ | ⟨k0, e1, hM2⟩
  · cases e1
    obtain ⟨-, qw, qR⟩ := qc.resolve_right (fun z => by omega)
    have hk0 := hkk.symm.trans k0
    obtain ⟨p1, hk1⟩ := kz hk0 (by decide)
    have hI5 : I4 (up S 11 (6 * s + w) v) (B + 2000) := I4_le (by omega) (I4_show hI4)
    refine e_istore dL_law_645 (Nat.le_of_ble_eq_true rfl) rfl rfl ?_
    refine e_aload_n dL_law_647 rfl rfl ?_
    refine e_callV (As := []) (cb := 10) dL_law_648 moX9_thrown mvX9_thrown mlL_140 (by decide) rfl hM2.1.1 rfl (Nat.le_of_ble_eq_true rfl) ⟨Nat.le_of_ble_eq_true rfl, Nat.le_of_ble_eq_true rfl, by show k + 3 ≤ 603072; omega, by show n + 18 ≤ 7207018; omega⟩ (c_X9_thrown hl hM2.1) (fun E h9 q => by cases q.1) (fun v9 h9 q => ?_)
    obtain ⟨e1, e2⟩ := q
    cases e1
    rw [e2]
    clear e2 h9
    refine e_G (fun G2 => ?_)
    have z9 : zin kk := by rw [← t9]; exact G2.1 _ _
    rw [t9]
    refine e_iload dL_law_651 rfl ?_
    refine e_icmp_eq (tgt := 658) dL_law_653 (by decide) z9 z9 (fun _ => ?_) (fun c => absurd rfl c)
    refine e_iload dL_law_658 rfl ?_
    refine e_if_ne (tgt := 682) dL_law_660 (by decide) z9 (fun c => absurd k0 c) (fun _ => ?_)
    refine e_aload_n dL_law_663 rfl rfl ?_
    refine e_iconst dL_law_664 ?_
    refine e_lald dL_law_665 ((hM2.2 6 (by decide)).1.trans q6.1) (by decide) (by rw [(hM2.2 6 (by decide)).2.1, q6.2]; decide) (((hM2.2 6 (by decide)).2.2.2.2.2.2.2.1 0).trans qw) ?_
    refine e_iload dL_law_666 rfl ?_
    have hz1 : (S 11 (6 * s + w)) = 0 ∨ (S 11 (6 * s + w)) = 1 := (hI.2.2.2.2 11 (by decide) _)
    refine e_bl5 (t0 := 675) (j := 676) dL_law_668 (by decide) dL_law_671 dL_law_672 (by decide) dL_law_675 (by decide) (by omega) ?_
    refine e_lcmp_eq dL_law_676 rfl ?_
    refine e_if_eq (tgt := 682) dL_law_677 (by decide) (by decide) (fun _ => ?_) (fun c => absurd rfl c)
    refine e_goto (tgt := 2542) dL_law_682 (by decide) ?_
    refine e_mask [true, true, true, true, true, true, false, false, false] ?_
    refine e_wid (k + 10) (n + 11813) (by show k + 3 ≤ _; omega) (by show n + 18 ≤ _; omega) ?_
    exact K (up S 11 (6 * s + w) v) h2 ⟨hM2.1, RC_99 hM2.2 qR, hI5, ⟨(hM2.2 6 (by decide)).1.trans q6.1, (hM2.2 6 (by decide)).2.1.trans q6.2⟩, ⟨((hM2.2 7 (by decide)).1.trans (qf 7 (by decide)).1).trans h7.1, ((hM2.2 7 (by decide)).2.1.trans (qf 7 (by decide)).2.1).trans h7.2⟩, by omega⟩
  · cases e1
    have qR := (qc.resolve_left (fun z => by omega)).2
    have hI5 : I4 S (B + 2000) := I4_le (by omega) hI4
    refine e_istore dL_law_645 (Nat.le_of_ble_eq_true rfl) rfl rfl ?_
    refine e_aload_n dL_law_647 rfl rfl ?_
    refine e_callV (As := []) (cb := 10) dL_law_648 moX9_thrown mvX9_thrown mlL_140 (by decide) rfl hM2.1.1 rfl (Nat.le_of_ble_eq_true rfl) ⟨Nat.le_of_ble_eq_true rfl, Nat.le_of_ble_eq_true rfl, by show k + 3 ≤ 603072; omega, by show n + 18 ≤ 7207018; omega⟩ (c_X9_thrown hl hM2.1) (fun E h9 q => by cases q.1) (fun v9 h9 q => ?_)
    obtain ⟨e1, e2⟩ := q
    cases e1
    rw [e2]
    clear e2 h9
    refine e_G (fun G2 => ?_)
    have z9 : zin kk := by rw [← t9]; exact G2.1 _ _
    rw [t9]
    refine e_iload dL_law_651 rfl ?_
    refine e_icmp_eq (tgt := 658) dL_law_653 (by decide) z9 z9 (fun _ => ?_) (fun c => absurd rfl c)
    refine e_iload dL_law_658 rfl ?_
    refine e_if_ne (tgt := 682) dL_law_660 (by decide) z9 (fun _ => ?_) (fun c => absurd c k0)
    refine e_goto (tgt := 2542) dL_law_682 (by decide) ?_
    refine e_mask [true, true, true, true, true, true, false, false, false] ?_
    refine e_wid (k + 10) (n + 11813) (by show k + 3 ≤ _; omega) (by show n + 18 ≤ _; omega) ?_
    exact K S h2 ⟨hM2.1, RC_99 hM2.2 qR, hI5, ⟨(hM2.2 6 (by decide)).1.trans q6.1, (hM2.2 6 (by decide)).2.1.trans q6.2⟩, ⟨((hM2.2 7 (by decide)).1.trans (qf 7 (by decide)).1).trans h7.1, ((hM2.2 7 (by decide)).2.1.trans (qf 7 (by decide)).2.1).trans h7.2⟩, by omega⟩
set_option maxHeartbeats 4000000 in
set_option maxRecDepth 100000 in
theorem cs_mark {l : Launch} (hl : l.stackTraces = false) (hG : GMore l) {L : Nat} {f : Nat → Int32} {S : S9} {h : zH} {B i : Int} {k n : Nat} (i0 : 0 ≤ i) (i8 : i + 8 ≤ L) (hk : k + 10 ≤ 603072) (hn : n + 11813 ≤ 7207018) (hB9 : B ≤ 800000000) (hL0 : LI S B h) (K : ∀ S' h', LI S' (B + 2000) h' → AW l (MLW L f) QW (k + 10) (n + 11813) 2542 [zY, zR (some 2), zR (some 99), zR (some 6), zR (some 7), zI i, zX, zX, zX] [] h') : AW l (MLW L f) QW k n 685 [zY, zR (some 2), zR (some 99), zR (some 6), zR (some 7), zI i, zX, zX, zX] [] h := by
  obtain ⟨hM, hR, hI4, h6, h7, hB0⟩ := hL0
  refine e_G (fun G => ?_)
  have hI := II_of G hM hI4
  have hN : IN S := hI4.1.1
  have hIW : IW S := hI4.1.2.1
  have hIO : IO S := hI4.1.2.2.1
  have hIC : IC S := hI4.1.2.2.2.1
  have hIK : IK S := hI4.1.2.2.2.2
  obtain ⟨n1, n2, n3, n4, n5⟩ := id hN
  obtain ⟨s, hes⟩ : ∃ z : Int, z = (f (i + 1).toNat).toInt := ⟨_, rfl⟩
  have hsz : zin s := by rw [hes]; exact ⟨Int32.le_toInt _, Int32.toInt_lt _⟩
  obtain ⟨w, hew⟩ : ∃ z : Int, z = (f (i + 2).toNat).toInt := ⟨_, rfl⟩
  have hwz : zin w := by rw [hew]; exact ⟨Int32.le_toInt _, Int32.toInt_lt _⟩
  obtain ⟨qv, hqv⟩ : ∃ z : Int, z = (f (i + 3).toNat).toInt := ⟨_, rfl⟩
  obtain ⟨v, hev⟩ : ∃ z : Int, z = (if qv = 0 then 0 else 1) := ⟨_, rfl⟩
  have hv : v = 0 ∨ v = 1 := by rw [hev]; exact b5_01
  obtain ⟨qu, hqu⟩ : ∃ z : Int, z = (f (i + 4).toNat).toInt := ⟨_, rfl⟩
  obtain ⟨u, heu⟩ : ∃ z : Int, z = (if qu = 0 then 0 else 1) := ⟨_, rfl⟩
  have hu : u = 0 ∨ u = 1 := by rw [heu]; exact b5_01
  obtain ⟨kk, hkk⟩ : ∃ kk : Int, kk = (if ¬ isWn S s w then 1 else 0) := ⟨_, rfl⟩
  have hc1 := c_L_mark hl hR hI h6 s hsz w hwz v u hv hu
  rw [← hkk] at hc1
  refine e_aload_n dL_law_685 rfl rfl ?_
  refine e_aloadY dL_law_686 rfl rfl ?_
  refine e_iload dL_law_687 rfl ?_
  refine e_iconst dL_law_689 ?_
  refine e_iadd dL_law_690 ?_
  refine e_sld (L := L) (f := f) rfl dL_law_691 (by omega) (by omega) (fun y9 => ?_)
  rw [← hes] at y9 ⊢
  refine e_aloadY dL_law_692 rfl rfl ?_
  refine e_iload dL_law_693 rfl ?_
  refine e_iconst dL_law_695 ?_
  refine e_iadd dL_law_696 ?_
  refine e_sld (L := L) (f := f) rfl dL_law_697 (by omega) (by omega) (fun y9 => ?_)
  rw [← hew] at y9 ⊢
  refine e_aloadY dL_law_698 rfl rfl ?_
  refine e_iload dL_law_699 rfl ?_
  refine e_iconst dL_law_701 ?_
  refine e_iadd dL_law_702 ?_
  refine e_sld (L := L) (f := f) rfl dL_law_703 (by omega) (by omega) (fun y9 => ?_)
  rw [← hqv] at y9 ⊢
  refine e_b5 (t0 := 711) (j := 712) dL_law_704 (by decide) dL_law_707 dL_law_708 (by decide) dL_law_711 (by decide) y9 ?_
  rw [← hev]
  refine e_aloadY dL_law_712 rfl rfl ?_
  refine e_iload dL_law_713 rfl ?_
  refine e_iconst dL_law_715 ?_
  refine e_iadd dL_law_716 ?_
  refine e_sld (L := L) (f := f) rfl dL_law_717 (by omega) (by omega) (fun y9 => ?_)
  rw [← hqu] at y9 ⊢
  refine e_b5 (t0 := 725) (j := 726) dL_law_718 (by decide) dL_law_721 dL_law_722 (by decide) dL_law_725 (by decide) y9 ?_
  rw [← heu]
  refine e_aload_n dL_law_726 rfl rfl ?_
  refine e_callH (As := [zR _, zI _, zI _, zI _, zI _, zR _]) dL_law_727 hoL_mark mlL_162 rfl (Nat.le_of_ble_eq_true rfl) ⟨Nat.le_of_ble_eq_true rfl, Nat.le_of_ble_eq_true rfl, by show k + 3 ≤ 603072; omega, by show n + 18 ≤ 7207018; omega⟩ hc1 (fun E h1 q => (QL_inl q).elim) (fun v9 h1 q => ?_)
  obtain ⟨e1, qf, q6, qc⟩ := q
  cases e1
  refine e_istore dL_law_730 (Nat.le_of_ble_eq_true rfl) rfl rfl ?_
  have hM1 := RM_fr (fun m m0 m1 => qf m (by omega)) hM
  have hc2 : zC l MX9_mark [zR (some 99), zI s, zI w, zI v, zI u] h1 (QM S h1 kk (zI 0) (zI (b2 (S 12 (6 * s + w) ≠ v ∨ S 13 (6 * s + w) ≠ u))) (up (up S 12 (6 * s + w) v) 13 (6 * s + w) u)) := by
    rw [hkk]
    exact c_X9_mark hl hM1 hN hIW hIO s w hsz hwz v u hv hu
  refine e_aload_n dL_law_732 rfl rfl ?_
  refine e_aloadY dL_law_733 rfl rfl ?_
  refine e_iload dL_law_734 rfl ?_
  refine e_iconst dL_law_736 ?_
  refine e_iadd dL_law_737 ?_
  refine e_sld (L := L) (f := f) rfl dL_law_738 (by omega) (by omega) (fun y9 => ?_)
  rw [← hes] at y9 ⊢
  refine e_aloadY dL_law_739 rfl rfl ?_
  refine e_iload dL_law_740 rfl ?_
  refine e_iconst dL_law_742 ?_
  refine e_iadd dL_law_743 ?_
  refine e_sld (L := L) (f := f) rfl dL_law_744 (by omega) (by omega) (fun y9 => ?_)
  rw [← hew] at y9 ⊢
  refine e_aloadY dL_law_745 rfl rfl ?_
  refine e_iload dL_law_746 rfl ?_
  refine e_iconst dL_law_748 ?_
  refine e_iadd dL_law_749 ?_
  refine e_sld (L := L) (f := f) rfl dL_law_750 (by omega) (by omega) (fun y9 => ?_)
  rw [← hqv] at y9 ⊢
  refine e_b5 (t0 := 758) (j := 759) dL_law_751 (by decide) dL_law_754 dL_law_755 (by decide) dL_law_758 (by decide) y9 ?_
  rw [← hev]
  refine e_aloadY dL_law_759 rfl rfl ?_
  refine e_iload dL_law_760 rfl ?_
  refine e_iconst dL_law_762 ?_
  refine e_iadd dL_law_763 ?_
  refine e_sld (L := L) (f := f) rfl dL_law_764 (by omega) (by omega) (fun y9 => ?_)
  rw [← hqu] at y9 ⊢
  refine e_b5 (t0 := 772) (j := 773) dL_law_765 (by decide) dL_law_768 dL_law_769 (by decide) dL_law_772 (by decide) y9 ?_
  rw [← heu]
  refine e_callV (As := [zI _, zI _, zI _, zI _]) (cb := 10) dL_law_773 moX9_mark mvX9_mark mlL_165 (by decide) rfl hM1.1 rfl (Nat.le_of_ble_eq_true rfl) ⟨Nat.le_of_ble_eq_true rfl, Nat.le_of_ble_eq_true rfl, by show k + 3 ≤ 603072; omega, by show n + 18 ≤ 7207018; omega⟩ hc2 (fun E h2 q => by rcases q.2 with ⟨-, z, -⟩ | ⟨-, z, -⟩ <;> cases z) (fun v9 h2 q => ?_)
  obtain ⟨t9, q2⟩ := q
  have hkn : 0 ≤ kk := by rcases qc with z | z <;> omega
  rcases q2 with ⟨k0, e1, hM2⟩ | ⟨k0, e1, hM2⟩
  · cases e1
    obtain ⟨-, qw, qR⟩ := qc.resolve_right (fun z => by omega)
    have hk0 := hkk.symm.trans k0
    obtain ⟨p1, hk1⟩ := kz hk0 (by decide)
    have hI5 : I4 (up (up S 12 (6 * s + w) v) 13 (6 * s + w) u) (B + 2000) := I4_le (by omega) (I4_mark hI4 (Classical.not_not.mp p1) (by omega))
    refine e_istore dL_law_776 (Nat.le_of_ble_eq_true rfl) rfl rfl ?_
    refine e_aload_n dL_law_778 rfl rfl ?_
    refine e_callV (As := []) (cb := 10) dL_law_779 moX9_thrown mvX9_thrown mlL_140 (by decide) rfl hM2.1.1 rfl (Nat.le_of_ble_eq_true rfl) ⟨Nat.le_of_ble_eq_true rfl, Nat.le_of_ble_eq_true rfl, by show k + 3 ≤ 603072; omega, by show n + 18 ≤ 7207018; omega⟩ (c_X9_thrown hl hM2.1) (fun E h9 q => by cases q.1) (fun v9 h9 q => ?_)
    obtain ⟨e1, e2⟩ := q
    cases e1
    rw [e2]
    clear e2 h9
    refine e_G (fun G2 => ?_)
    have z9 : zin kk := by rw [← t9]; exact G2.1 _ _
    rw [t9]
    refine e_iload dL_law_782 rfl ?_
    refine e_icmp_eq (tgt := 789) dL_law_784 (by decide) z9 z9 (fun _ => ?_) (fun c => absurd rfl c)
    refine e_iload dL_law_789 rfl ?_
    refine e_if_ne (tgt := 813) dL_law_791 (by decide) z9 (fun c => absurd k0 c) (fun _ => ?_)
    refine e_aload_n dL_law_794 rfl rfl ?_
    refine e_iconst dL_law_795 ?_
    refine e_lald dL_law_796 ((hM2.2 6 (by decide)).1.trans q6.1) (by decide) (by rw [(hM2.2 6 (by decide)).2.1, q6.2]; decide) (((hM2.2 6 (by decide)).2.2.2.2.2.2.2.1 0).trans qw) ?_
    refine e_iload dL_law_797 rfl ?_
    have hz1 : (b2 (S 12 (6 * s + w) ≠ v ∨ S 13 (6 * s + w) ≠ u)) = 0 ∨ (b2 (S 12 (6 * s + w) ≠ v ∨ S 13 (6 * s + w) ≠ u)) = 1 := b2_01
    refine e_bl5 (t0 := 806) (j := 807) dL_law_799 (by decide) dL_law_802 dL_law_803 (by decide) dL_law_806 (by decide) (by omega) ?_
    refine e_lcmp_eq dL_law_807 rfl ?_
    refine e_if_eq (tgt := 813) dL_law_808 (by decide) (by decide) (fun _ => ?_) (fun c => absurd rfl c)
    refine e_goto (tgt := 2542) dL_law_813 (by decide) ?_
    refine e_mask [true, true, true, true, true, true, false, false, false] ?_
    refine e_wid (k + 10) (n + 11813) (by show k + 3 ≤ _; omega) (by show n + 18 ≤ _; omega) ?_
    exact K (up (up S 12 (6 * s + w) v) 13 (6 * s + w) u) h2 ⟨hM2.1, RC_99 hM2.2 qR, hI5, ⟨(hM2.2 6 (by decide)).1.trans q6.1, (hM2.2 6 (by decide)).2.1.trans q6.2⟩, ⟨((hM2.2 7 (by decide)).1.trans (qf 7 (by decide)).1).trans h7.1, ((hM2.2 7 (by decide)).2.1.trans (qf 7 (by decide)).2.1).trans h7.2⟩, by omega⟩
  · cases e1
    have qR := (qc.resolve_left (fun z => by omega)).2
    have hI5 : I4 S (B + 2000) := I4_le (by omega) hI4
    refine e_istore dL_law_776 (Nat.le_of_ble_eq_true rfl) rfl rfl ?_
    refine e_aload_n dL_law_778 rfl rfl ?_
    refine e_callV (As := []) (cb := 10) dL_law_779 moX9_thrown mvX9_thrown mlL_140 (by decide) rfl hM2.1.1 rfl (Nat.le_of_ble_eq_true rfl) ⟨Nat.le_of_ble_eq_true rfl, Nat.le_of_ble_eq_true rfl, by show k + 3 ≤ 603072; omega, by show n + 18 ≤ 7207018; omega⟩ (c_X9_thrown hl hM2.1) (fun E h9 q => by cases q.1) (fun v9 h9 q => ?_)
    obtain ⟨e1, e2⟩ := q
    cases e1
    rw [e2]
    clear e2 h9
    refine e_G (fun G2 => ?_)
    have z9 : zin kk := by rw [← t9]; exact G2.1 _ _
    rw [t9]
    refine e_iload dL_law_782 rfl ?_
    refine e_icmp_eq (tgt := 789) dL_law_784 (by decide) z9 z9 (fun _ => ?_) (fun c => absurd rfl c)
    refine e_iload dL_law_789 rfl ?_
    refine e_if_ne (tgt := 813) dL_law_791 (by decide) z9 (fun _ => ?_) (fun c => absurd c k0)
    refine e_goto (tgt := 2542) dL_law_813 (by decide) ?_
    refine e_mask [true, true, true, true, true, true, false, false, false] ?_
    refine e_wid (k + 10) (n + 11813) (by show k + 3 ≤ _; omega) (by show n + 18 ≤ _; omega) ?_
    exact K S h2 ⟨hM2.1, RC_99 hM2.2 qR, hI5, ⟨(hM2.2 6 (by decide)).1.trans q6.1, (hM2.2 6 (by decide)).2.1.trans q6.2⟩, ⟨((hM2.2 7 (by decide)).1.trans (qf 7 (by decide)).1).trans h7.1, ((hM2.2 7 (by decide)).2.1.trans (qf 7 (by decide)).2.1).trans h7.2⟩, by omega⟩
set_option maxHeartbeats 4000000 in
set_option maxRecDepth 100000 in
theorem cs_draw {l : Launch} (hl : l.stackTraces = false) (hG : GMore l) {L : Nat} {f : Nat → Int32} {S : S9} {h : zH} {B i : Int} {k n : Nat} (i0 : 0 ≤ i) (i8 : i + 8 ≤ L) (hk : k + 10 ≤ 603072) (hn : n + 11813 ≤ 7207018) (hB9 : B ≤ 800000000) (hL0 : LI S B h) (K : ∀ S' h', LI S' (B + 2000) h' → AW l (MLW L f) QW (k + 10) (n + 11813) 2542 [zY, zR (some 2), zR (some 99), zR (some 6), zR (some 7), zI i, zX, zX, zX] [] h') : AW l (MLW L f) QW k n 816 [zY, zR (some 2), zR (some 99), zR (some 6), zR (some 7), zI i, zX, zX, zX] [] h := by
  obtain ⟨hM, hR, hI4, h6, h7, hB0⟩ := hL0
  refine e_G (fun G => ?_)
  have hI := II_of G hM hI4
  have hN : IN S := hI4.1.1
  have hIW : IW S := hI4.1.2.1
  have hIO : IO S := hI4.1.2.2.1
  have hIC : IC S := hI4.1.2.2.2.1
  have hIK : IK S := hI4.1.2.2.2.2
  obtain ⟨n1, n2, n3, n4, n5⟩ := id hN
  obtain ⟨s, hes⟩ : ∃ z : Int, z = (f (i + 1).toNat).toInt := ⟨_, rfl⟩
  have hsz : zin s := by rw [hes]; exact ⟨Int32.le_toInt _, Int32.toInt_lt _⟩
  obtain ⟨w, hew⟩ : ∃ z : Int, z = (f (i + 2).toNat).toInt := ⟨_, rfl⟩
  have hwz : zin w := by rw [hew]; exact ⟨Int32.le_toInt _, Int32.toInt_lt _⟩
  obtain ⟨x, hex⟩ : ∃ z : Int, z = (f (i + 3).toNat).toInt := ⟨_, rfl⟩
  have hxz : zin x := by rw [hex]; exact ⟨Int32.le_toInt _, Int32.toInt_lt _⟩
  obtain ⟨y, hey⟩ : ∃ z : Int, z = (f (i + 4).toNat).toInt := ⟨_, rfl⟩
  have hyz : zin y := by rw [hey]; exact ⟨Int32.le_toInt _, Int32.toInt_lt _⟩
  obtain ⟨a, hea⟩ : ∃ z : Int, z = (f (i + 5).toNat).toInt := ⟨_, rfl⟩
  have haz : zin a := by rw [hea]; exact ⟨Int32.le_toInt _, Int32.toInt_lt _⟩
  obtain ⟨b, heb⟩ : ∃ z : Int, z = (f (i + 6).toNat).toInt := ⟨_, rfl⟩
  have hbz : zin b := by rw [heb]; exact ⟨Int32.le_toInt _, Int32.toInt_lt _⟩
  obtain ⟨c, hec⟩ : ∃ z : Int, z = (f (i + 7).toNat).toInt := ⟨_, rfl⟩
  have hcz : zin c := by rw [hec]; exact ⟨Int32.le_toInt _, Int32.toInt_lt _⟩
  obtain ⟨kk, hkk⟩ : ∃ kk : Int, kk = (if ¬ isWn S s w then 1 else if ¬ (isXY x y ∧ (1 ≤ a ∧ a ≤ 12) ∧ (1 ≤ b ∧ b ≤ 8) ∧ (0 ≤ c ∧ c ≤ 255)) then 2 else 0) := ⟨_, rfl⟩
  have hc1 := c_L_draw hl hR hI h6 s hsz w hwz x hxz y hyz a haz b hbz c hcz
  rw [← hkk] at hc1
  refine e_aload_n dL_law_816 rfl rfl ?_
  refine e_aloadY dL_law_817 rfl rfl ?_
  refine e_iload dL_law_818 rfl ?_
  refine e_iconst dL_law_820 ?_
  refine e_iadd dL_law_821 ?_
  refine e_sld (L := L) (f := f) rfl dL_law_822 (by omega) (by omega) (fun y9 => ?_)
  rw [← hes] at y9 ⊢
  refine e_aloadY dL_law_823 rfl rfl ?_
  refine e_iload dL_law_824 rfl ?_
  refine e_iconst dL_law_826 ?_
  refine e_iadd dL_law_827 ?_
  refine e_sld (L := L) (f := f) rfl dL_law_828 (by omega) (by omega) (fun y9 => ?_)
  rw [← hew] at y9 ⊢
  refine e_aloadY dL_law_829 rfl rfl ?_
  refine e_iload dL_law_830 rfl ?_
  refine e_iconst dL_law_832 ?_
  refine e_iadd dL_law_833 ?_
  refine e_sld (L := L) (f := f) rfl dL_law_834 (by omega) (by omega) (fun y9 => ?_)
  rw [← hex] at y9 ⊢
  refine e_aloadY dL_law_835 rfl rfl ?_
  refine e_iload dL_law_836 rfl ?_
  refine e_iconst dL_law_838 ?_
  refine e_iadd dL_law_839 ?_
  refine e_sld (L := L) (f := f) rfl dL_law_840 (by omega) (by omega) (fun y9 => ?_)
  rw [← hey] at y9 ⊢
  refine e_aloadY dL_law_841 rfl rfl ?_
  refine e_iload dL_law_842 rfl ?_
  refine e_iconst dL_law_844 ?_
  refine e_iadd dL_law_845 ?_
  refine e_sld (L := L) (f := f) rfl dL_law_846 (by omega) (by omega) (fun y9 => ?_)
  rw [← hea] at y9 ⊢
  refine e_aloadY dL_law_847 rfl rfl ?_
  refine e_iload dL_law_848 rfl ?_
  refine e_bipush dL_law_850 (by decide) ?_
  refine e_iadd dL_law_852 ?_
  refine e_sld (L := L) (f := f) rfl dL_law_853 (by omega) (by omega) (fun y9 => ?_)
  rw [← heb] at y9 ⊢
  refine e_aloadY dL_law_854 rfl rfl ?_
  refine e_iload dL_law_855 rfl ?_
  refine e_bipush dL_law_857 (by decide) ?_
  refine e_iadd dL_law_859 ?_
  refine e_sld (L := L) (f := f) rfl dL_law_860 (by omega) (by omega) (fun y9 => ?_)
  rw [← hec] at y9 ⊢
  refine e_aload_n dL_law_861 rfl rfl ?_
  refine e_callH (As := [zR _, zI _, zI _, zI _, zI _, zI _, zI _, zI _, zR _]) dL_law_862 hoL_draw mlL_166 rfl (Nat.le_of_ble_eq_true rfl) ⟨Nat.le_of_ble_eq_true rfl, Nat.le_of_ble_eq_true rfl, by show k + 4 ≤ 603072; omega, by show n + 24 ≤ 7207018; omega⟩ hc1 (fun E h1 q => (QL_inl q).elim) (fun v9 h1 q => ?_)
  obtain ⟨e1, qf, q6, qc⟩ := q
  cases e1
  refine e_istore dL_law_865 (Nat.le_of_ble_eq_true rfl) rfl rfl ?_
  have hM1 := RM_fr (fun m m0 m1 => qf m (by omega)) hM
  have hc2 : zC l MX9_draw [zR (some 99), zI s, zI w, zI x, zI y, zI a, zI b, zI c] h1 (QM S h1 kk (zI 0) (zI (drawN S (6 * s + w) x y a b c)) (drawS S (6 * s + w) x y a b c)) := by
    rw [hkk]
    exact c_X9_draw hl hM1 hN hIW hIO s w hsz hwz x y a b c hxz hyz haz hbz hcz
  refine e_aload_n dL_law_867 rfl rfl ?_
  refine e_aloadY dL_law_868 rfl rfl ?_
  refine e_iload dL_law_869 rfl ?_
  refine e_iconst dL_law_871 ?_
  refine e_iadd dL_law_872 ?_
  refine e_sld (L := L) (f := f) rfl dL_law_873 (by omega) (by omega) (fun y9 => ?_)
  rw [← hes] at y9 ⊢
  refine e_aloadY dL_law_874 rfl rfl ?_
  refine e_iload dL_law_875 rfl ?_
  refine e_iconst dL_law_877 ?_
  refine e_iadd dL_law_878 ?_
  refine e_sld (L := L) (f := f) rfl dL_law_879 (by omega) (by omega) (fun y9 => ?_)
  rw [← hew] at y9 ⊢
  refine e_aloadY dL_law_880 rfl rfl ?_
  refine e_iload dL_law_881 rfl ?_
  refine e_iconst dL_law_883 ?_
  refine e_iadd dL_law_884 ?_
  refine e_sld (L := L) (f := f) rfl dL_law_885 (by omega) (by omega) (fun y9 => ?_)
  rw [← hex] at y9 ⊢
  refine e_aloadY dL_law_886 rfl rfl ?_
  refine e_iload dL_law_887 rfl ?_
  refine e_iconst dL_law_889 ?_
  refine e_iadd dL_law_890 ?_
  refine e_sld (L := L) (f := f) rfl dL_law_891 (by omega) (by omega) (fun y9 => ?_)
  rw [← hey] at y9 ⊢
  refine e_aloadY dL_law_892 rfl rfl ?_
  refine e_iload dL_law_893 rfl ?_
  refine e_iconst dL_law_895 ?_
  refine e_iadd dL_law_896 ?_
  refine e_sld (L := L) (f := f) rfl dL_law_897 (by omega) (by omega) (fun y9 => ?_)
  rw [← hea] at y9 ⊢
  refine e_aloadY dL_law_898 rfl rfl ?_
  refine e_iload dL_law_899 rfl ?_
  refine e_bipush dL_law_901 (by decide) ?_
  refine e_iadd dL_law_903 ?_
  refine e_sld (L := L) (f := f) rfl dL_law_904 (by omega) (by omega) (fun y9 => ?_)
  rw [← heb] at y9 ⊢
  refine e_aloadY dL_law_905 rfl rfl ?_
  refine e_iload dL_law_906 rfl ?_
  refine e_bipush dL_law_908 (by decide) ?_
  refine e_iadd dL_law_910 ?_
  refine e_sld (L := L) (f := f) rfl dL_law_911 (by omega) (by omega) (fun y9 => ?_)
  rw [← hec] at y9 ⊢
  refine e_callV (As := [zI _, zI _, zI _, zI _, zI _, zI _, zI _]) (cb := 10) dL_law_912 moX9_draw mvX9_draw mlL_169 (by decide) rfl hM1.1 rfl (Nat.le_of_ble_eq_true rfl) ⟨Nat.le_of_ble_eq_true rfl, Nat.le_of_ble_eq_true rfl, by show k + 4 ≤ 603072; omega, by show n + 24 ≤ 7207018; omega⟩ hc2 (fun E h2 q => by rcases q.2 with ⟨-, z, -⟩ | ⟨-, z, -⟩ <;> cases z) (fun v9 h2 q => ?_)
  obtain ⟨t9, q2⟩ := q
  have hkn : 0 ≤ kk := by rcases qc with z | z <;> omega
  rcases q2 with ⟨k0, e1, hM2⟩ | ⟨k0, e1, hM2⟩
  · cases e1
    obtain ⟨-, qw, qR⟩ := qc.resolve_right (fun z => by omega)
    have hk0 := hkk.symm.trans k0
    obtain ⟨p1, hk1⟩ := kz hk0 (by decide)
    obtain ⟨p2, hk2⟩ := kz hk1 (by decide)
    have hI5 : I4 (drawS S (6 * s + w) x y a b c) (B + 2000) := I4_le (by omega) (I4_draw hI4 (Classical.not_not.mp p1) (by omega))
    refine e_istore dL_law_915 (Nat.le_of_ble_eq_true rfl) rfl rfl ?_
    refine e_aload_n dL_law_917 rfl rfl ?_
    refine e_callV (As := []) (cb := 10) dL_law_918 moX9_thrown mvX9_thrown mlL_140 (by decide) rfl hM2.1.1 rfl (Nat.le_of_ble_eq_true rfl) ⟨Nat.le_of_ble_eq_true rfl, Nat.le_of_ble_eq_true rfl, by show k + 4 ≤ 603072; omega, by show n + 24 ≤ 7207018; omega⟩ (c_X9_thrown hl hM2.1) (fun E h9 q => by cases q.1) (fun v9 h9 q => ?_)
    obtain ⟨e1, e2⟩ := q
    cases e1
    rw [e2]
    clear e2 h9
    refine e_G (fun G2 => ?_)
    have z9 : zin kk := by rw [← t9]; exact G2.1 _ _
    rw [t9]
    refine e_iload dL_law_921 rfl ?_
    refine e_icmp_eq (tgt := 928) dL_law_923 (by decide) z9 z9 (fun _ => ?_) (fun c => absurd rfl c)
    refine e_iload dL_law_928 rfl ?_
    refine e_if_ne (tgt := 945) dL_law_930 (by decide) z9 (fun c => absurd k0 c) (fun _ => ?_)
    refine e_aload_n dL_law_933 rfl rfl ?_
    refine e_iconst dL_law_934 ?_
    refine e_lald dL_law_935 ((hM2.2 6 (by decide)).1.trans q6.1) (by decide) (by rw [(hM2.2 6 (by decide)).2.1, q6.2]; decide) (((hM2.2 6 (by decide)).2.2.2.2.2.2.2.1 0).trans qw) ?_
    refine e_iload dL_law_936 rfl ?_
    refine e_i2lw dL_law_938 ?_
    refine e_lcmp_eq dL_law_939 rfl ?_
    refine e_if_eq (tgt := 945) dL_law_940 (by decide) (by decide) (fun _ => ?_) (fun c => absurd rfl c)
    refine e_goto (tgt := 2542) dL_law_945 (by decide) ?_
    refine e_mask [true, true, true, true, true, true, false, false, false] ?_
    refine e_wid (k + 10) (n + 11813) (by show k + 4 ≤ _; omega) (by show n + 24 ≤ _; omega) ?_
    exact K (drawS S (6 * s + w) x y a b c) h2 ⟨hM2.1, RC_99 hM2.2 qR, hI5, ⟨(hM2.2 6 (by decide)).1.trans q6.1, (hM2.2 6 (by decide)).2.1.trans q6.2⟩, ⟨((hM2.2 7 (by decide)).1.trans (qf 7 (by decide)).1).trans h7.1, ((hM2.2 7 (by decide)).2.1.trans (qf 7 (by decide)).2.1).trans h7.2⟩, by omega⟩
  · cases e1
    have qR := (qc.resolve_left (fun z => by omega)).2
    have hI5 : I4 S (B + 2000) := I4_le (by omega) hI4
    refine e_istore dL_law_915 (Nat.le_of_ble_eq_true rfl) rfl rfl ?_
    refine e_aload_n dL_law_917 rfl rfl ?_
    refine e_callV (As := []) (cb := 10) dL_law_918 moX9_thrown mvX9_thrown mlL_140 (by decide) rfl hM2.1.1 rfl (Nat.le_of_ble_eq_true rfl) ⟨Nat.le_of_ble_eq_true rfl, Nat.le_of_ble_eq_true rfl, by show k + 4 ≤ 603072; omega, by show n + 24 ≤ 7207018; omega⟩ (c_X9_thrown hl hM2.1) (fun E h9 q => by cases q.1) (fun v9 h9 q => ?_)
    obtain ⟨e1, e2⟩ := q
    cases e1
    rw [e2]
    clear e2 h9
    refine e_G (fun G2 => ?_)
    have z9 : zin kk := by rw [← t9]; exact G2.1 _ _
    rw [t9]
    refine e_iload dL_law_921 rfl ?_
    refine e_icmp_eq (tgt := 928) dL_law_923 (by decide) z9 z9 (fun _ => ?_) (fun c => absurd rfl c)
    refine e_iload dL_law_928 rfl ?_
    refine e_if_ne (tgt := 945) dL_law_930 (by decide) z9 (fun _ => ?_) (fun c => absurd c k0)
    refine e_goto (tgt := 2542) dL_law_945 (by decide) ?_
    refine e_mask [true, true, true, true, true, true, false, false, false] ?_
    refine e_wid (k + 10) (n + 11813) (by show k + 4 ≤ _; omega) (by show n + 24 ≤ _; omega) ?_
    exact K S h2 ⟨hM2.1, RC_99 hM2.2 qR, hI5, ⟨(hM2.2 6 (by decide)).1.trans q6.1, (hM2.2 6 (by decide)).2.1.trans q6.2⟩, ⟨((hM2.2 7 (by decide)).1.trans (qf 7 (by decide)).1).trans h7.1, ((hM2.2 7 (by decide)).2.1.trans (qf 7 (by decide)).2.1).trans h7.2⟩, by omega⟩
set_option maxHeartbeats 4000000 in
set_option maxRecDepth 100000 in
theorem cs_screen {l : Launch} (hl : l.stackTraces = false) (hG : GMore l) {L : Nat} {f : Nat → Int32} {S : S9} {h : zH} {B i : Int} {k n : Nat} (i0 : 0 ≤ i) (i8 : i + 8 ≤ L) (hk : k + 10 ≤ 603072) (hn : n + 11813 ≤ 7207018) (hB9 : B ≤ 800000000) (hL0 : LI S B h) (K : ∀ S' h', LI S' (B + 2000) h' → AW l (MLW L f) QW (k + 10) (n + 11813) 2542 [zY, zR (some 2), zR (some 99), zR (some 6), zR (some 7), zI i, zX, zX, zX] [] h') : AW l (MLW L f) QW k n 948 [zY, zR (some 2), zR (some 99), zR (some 6), zR (some 7), zI i, zX, zX, zX] [] h := by
  obtain ⟨hM, hR, hI4, h6, h7, hB0⟩ := hL0
  refine e_G (fun G => ?_)
  have hI := II_of G hM hI4
  have hN : IN S := hI4.1.1
  have hIW : IW S := hI4.1.2.1
  have hIO : IO S := hI4.1.2.2.1
  have hIC : IC S := hI4.1.2.2.2.1
  have hIK : IK S := hI4.1.2.2.2.2
  obtain ⟨n1, n2, n3, n4, n5⟩ := id hN
  obtain ⟨s, hes⟩ : ∃ z : Int, z = (f (i + 1).toNat).toInt := ⟨_, rfl⟩
  have hsz : zin s := by rw [hes]; exact ⟨Int32.le_toInt _, Int32.toInt_lt _⟩
  obtain ⟨x, hex⟩ : ∃ z : Int, z = (f (i + 2).toNat).toInt := ⟨_, rfl⟩
  have hxz : zin x := by rw [hex]; exact ⟨Int32.le_toInt _, Int32.toInt_lt _⟩
  obtain ⟨y, hey⟩ : ∃ z : Int, z = (f (i + 3).toNat).toInt := ⟨_, rfl⟩
  have hyz : zin y := by rw [hey]; exact ⟨Int32.le_toInt _, Int32.toInt_lt _⟩
  obtain ⟨kk, hkk⟩ : ∃ kk : Int, kk = (if ¬ (isS S s ∧ isXY x y) then 1 else 0) := ⟨_, rfl⟩
  have hc1 := c_L_screen hl hR hI h6 s hsz x hxz y hyz
  rw [← hkk] at hc1
  refine e_aload_n dL_law_948 rfl rfl ?_
  refine e_aloadY dL_law_949 rfl rfl ?_
  refine e_iload dL_law_950 rfl ?_
  refine e_iconst dL_law_952 ?_
  refine e_iadd dL_law_953 ?_
  refine e_sld (L := L) (f := f) rfl dL_law_954 (by omega) (by omega) (fun y9 => ?_)
  rw [← hes] at y9 ⊢
  refine e_aloadY dL_law_955 rfl rfl ?_
  refine e_iload dL_law_956 rfl ?_
  refine e_iconst dL_law_958 ?_
  refine e_iadd dL_law_959 ?_
  refine e_sld (L := L) (f := f) rfl dL_law_960 (by omega) (by omega) (fun y9 => ?_)
  rw [← hex] at y9 ⊢
  refine e_aloadY dL_law_961 rfl rfl ?_
  refine e_iload dL_law_962 rfl ?_
  refine e_iconst dL_law_964 ?_
  refine e_iadd dL_law_965 ?_
  refine e_sld (L := L) (f := f) rfl dL_law_966 (by omega) (by omega) (fun y9 => ?_)
  rw [← hey] at y9 ⊢
  refine e_aload_n dL_law_967 rfl rfl ?_
  refine e_callH (As := [zR _, zI _, zI _, zI _, zR _]) dL_law_968 hoL_screen mlL_170 rfl (Nat.le_of_ble_eq_true rfl) ⟨Nat.le_of_ble_eq_true rfl, Nat.le_of_ble_eq_true rfl, by show k + 2 ≤ 603072; omega, by show n + 12 ≤ 7207018; omega⟩ hc1 (fun E h1 q => (QL_inl q).elim) (fun v9 h1 q => ?_)
  obtain ⟨e1, qf, q6, qc⟩ := q
  cases e1
  refine e_istore dL_law_971 (Nat.le_of_ble_eq_true rfl) rfl rfl ?_
  have hM1 := RM_fr (fun m m0 m1 => qf m (by omega)) hM
  have hc2 : zC l MX9_screen [zR (some 99), zI s, zI x, zI y] h1 (QM S h1 kk (zI 0) (zI (screenAt S s (y * 12 + x))) S) := by
    rw [hkk]
    exact c_X9_screen hl hM1 hN hIW hIO s x y hsz hxz hyz
  refine e_aload_n dL_law_973 rfl rfl ?_
  refine e_aloadY dL_law_974 rfl rfl ?_
  refine e_iload dL_law_975 rfl ?_
  refine e_iconst dL_law_977 ?_
  refine e_iadd dL_law_978 ?_
  refine e_sld (L := L) (f := f) rfl dL_law_979 (by omega) (by omega) (fun y9 => ?_)
  rw [← hes] at y9 ⊢
  refine e_aloadY dL_law_980 rfl rfl ?_
  refine e_iload dL_law_981 rfl ?_
  refine e_iconst dL_law_983 ?_
  refine e_iadd dL_law_984 ?_
  refine e_sld (L := L) (f := f) rfl dL_law_985 (by omega) (by omega) (fun y9 => ?_)
  rw [← hex] at y9 ⊢
  refine e_aloadY dL_law_986 rfl rfl ?_
  refine e_iload dL_law_987 rfl ?_
  refine e_iconst dL_law_989 ?_
  refine e_iadd dL_law_990 ?_
  refine e_sld (L := L) (f := f) rfl dL_law_991 (by omega) (by omega) (fun y9 => ?_)
  rw [← hey] at y9 ⊢
  refine e_callV (As := [zI _, zI _, zI _]) (cb := 10) dL_law_992 moX9_screen mvX9_screen mlL_173 (by decide) rfl hM1.1 rfl (Nat.le_of_ble_eq_true rfl) ⟨Nat.le_of_ble_eq_true rfl, Nat.le_of_ble_eq_true rfl, by show k + 2 ≤ 603072; omega, by show n + 12 ≤ 7207018; omega⟩ hc2 (fun E h2 q => by rcases q.2 with ⟨-, z, -⟩ | ⟨-, z, -⟩ <;> cases z) (fun v9 h2 q => ?_)
  obtain ⟨t9, q2⟩ := q
  have hkn : 0 ≤ kk := by rcases qc with z | z <;> omega
  rcases q2 with ⟨k0, e1, hM2⟩ | ⟨k0, e1, hM2⟩
  · cases e1
    obtain ⟨-, qw, qR⟩ := qc.resolve_right (fun z => by omega)
    have hk0 := hkk.symm.trans k0
    obtain ⟨p1, hk1⟩ := kz hk0 (by decide)
    have hI5 : I4 S (B + 2000) := I4_le (by omega) (hI4)
    refine e_istore dL_law_995 (Nat.le_of_ble_eq_true rfl) rfl rfl ?_
    refine e_aload_n dL_law_997 rfl rfl ?_
    refine e_callV (As := []) (cb := 10) dL_law_998 moX9_thrown mvX9_thrown mlL_140 (by decide) rfl hM2.1.1 rfl (Nat.le_of_ble_eq_true rfl) ⟨Nat.le_of_ble_eq_true rfl, Nat.le_of_ble_eq_true rfl, by show k + 2 ≤ 603072; omega, by show n + 12 ≤ 7207018; omega⟩ (c_X9_thrown hl hM2.1) (fun E h9 q => by cases q.1) (fun v9 h9 q => ?_)
    obtain ⟨e1, e2⟩ := q
    cases e1
    rw [e2]
    clear e2 h9
    refine e_G (fun G2 => ?_)
    have z9 : zin kk := by rw [← t9]; exact G2.1 _ _
    rw [t9]
    refine e_iload dL_law_1001 rfl ?_
    refine e_icmp_eq (tgt := 1008) dL_law_1003 (by decide) z9 z9 (fun _ => ?_) (fun c => absurd rfl c)
    refine e_iload dL_law_1008 rfl ?_
    refine e_if_ne (tgt := 1025) dL_law_1010 (by decide) z9 (fun c => absurd k0 c) (fun _ => ?_)
    refine e_aload_n dL_law_1013 rfl rfl ?_
    refine e_iconst dL_law_1014 ?_
    refine e_lald dL_law_1015 ((hM2.2 6 (by decide)).1.trans q6.1) (by decide) (by rw [(hM2.2 6 (by decide)).2.1, q6.2]; decide) (((hM2.2 6 (by decide)).2.2.2.2.2.2.2.1 0).trans qw) ?_
    refine e_iload dL_law_1016 rfl ?_
    refine e_i2lw dL_law_1018 ?_
    refine e_lcmp_eq dL_law_1019 rfl ?_
    refine e_if_eq (tgt := 1025) dL_law_1020 (by decide) (by decide) (fun _ => ?_) (fun c => absurd rfl c)
    refine e_goto (tgt := 2542) dL_law_1025 (by decide) ?_
    refine e_mask [true, true, true, true, true, true, false, false, false] ?_
    refine e_wid (k + 10) (n + 11813) (by show k + 2 ≤ _; omega) (by show n + 12 ≤ _; omega) ?_
    exact K S h2 ⟨hM2.1, RC_99 hM2.2 qR, hI5, ⟨(hM2.2 6 (by decide)).1.trans q6.1, (hM2.2 6 (by decide)).2.1.trans q6.2⟩, ⟨((hM2.2 7 (by decide)).1.trans (qf 7 (by decide)).1).trans h7.1, ((hM2.2 7 (by decide)).2.1.trans (qf 7 (by decide)).2.1).trans h7.2⟩, by omega⟩
  · cases e1
    have qR := (qc.resolve_left (fun z => by omega)).2
    have hI5 : I4 S (B + 2000) := I4_le (by omega) hI4
    refine e_istore dL_law_995 (Nat.le_of_ble_eq_true rfl) rfl rfl ?_
    refine e_aload_n dL_law_997 rfl rfl ?_
    refine e_callV (As := []) (cb := 10) dL_law_998 moX9_thrown mvX9_thrown mlL_140 (by decide) rfl hM2.1.1 rfl (Nat.le_of_ble_eq_true rfl) ⟨Nat.le_of_ble_eq_true rfl, Nat.le_of_ble_eq_true rfl, by show k + 2 ≤ 603072; omega, by show n + 12 ≤ 7207018; omega⟩ (c_X9_thrown hl hM2.1) (fun E h9 q => by cases q.1) (fun v9 h9 q => ?_)
    obtain ⟨e1, e2⟩ := q
    cases e1
    rw [e2]
    clear e2 h9
    refine e_G (fun G2 => ?_)
    have z9 : zin kk := by rw [← t9]; exact G2.1 _ _
    rw [t9]
    refine e_iload dL_law_1001 rfl ?_
    refine e_icmp_eq (tgt := 1008) dL_law_1003 (by decide) z9 z9 (fun _ => ?_) (fun c => absurd rfl c)
    refine e_iload dL_law_1008 rfl ?_
    refine e_if_ne (tgt := 1025) dL_law_1010 (by decide) z9 (fun _ => ?_) (fun c => absurd c k0)
    refine e_goto (tgt := 2542) dL_law_1025 (by decide) ?_
    refine e_mask [true, true, true, true, true, true, false, false, false] ?_
    refine e_wid (k + 10) (n + 11813) (by show k + 2 ≤ _; omega) (by show n + 12 ≤ _; omega) ?_
    exact K S h2 ⟨hM2.1, RC_99 hM2.2 qR, hI5, ⟨(hM2.2 6 (by decide)).1.trans q6.1, (hM2.2 6 (by decide)).2.1.trans q6.2⟩, ⟨((hM2.2 7 (by decide)).1.trans (qf 7 (by decide)).1).trans h7.1, ((hM2.2 7 (by decide)).2.1.trans (qf 7 (by decide)).2.1).trans h7.2⟩, by omega⟩
set_option maxHeartbeats 4000000 in
set_option maxRecDepth 100000 in
theorem cs_join {l : Launch} (hl : l.stackTraces = false) (hG : GMore l) {L : Nat} {f : Nat → Int32} {S : S9} {h : zH} {B i : Int} {k n : Nat} (i0 : 0 ≤ i) (i8 : i + 8 ≤ L) (hk : k + 10 ≤ 603072) (hn : n + 11813 ≤ 7207018) (hB9 : B ≤ 800000000) (hL0 : LI S B h) (K : ∀ S' h', LI S' (B + 2000) h' → AW l (MLW L f) QW (k + 10) (n + 11813) 2542 [zY, zR (some 2), zR (some 99), zR (some 6), zR (some 7), zI i, zX, zX, zX] [] h') : AW l (MLW L f) QW k n 1028 [zY, zR (some 2), zR (some 99), zR (some 6), zR (some 7), zI i, zX, zX, zX] [] h := by
  obtain ⟨hM, hR, hI4, h6, h7, hB0⟩ := hL0
  refine e_G (fun G => ?_)
  have hI := II_of G hM hI4
  have hN : IN S := hI4.1.1
  have hIW : IW S := hI4.1.2.1
  have hIO : IO S := hI4.1.2.2.1
  have hIC : IC S := hI4.1.2.2.2.1
  have hIK : IK S := hI4.1.2.2.2.2
  obtain ⟨n1, n2, n3, n4, n5⟩ := id hN
  obtain ⟨s, hes⟩ : ∃ z : Int, z = (f (i + 1).toNat).toInt := ⟨_, rfl⟩
  have hsz : zin s := by rw [hes]; exact ⟨Int32.le_toInt _, Int32.toInt_lt _⟩
  obtain ⟨b, heb⟩ : ∃ z : Int, z = (f (i + 2).toNat).toInt := ⟨_, rfl⟩
  have hbz : zin b := by rw [heb]; exact ⟨Int32.le_toInt _, Int32.toInt_lt _⟩
  obtain ⟨kk, hkk⟩ : ∃ kk : Int, kk = (if ¬ isS S s then 1 else if ¬ (0 ≤ b ∧ b ≤ 9) then 2 else if S 2 0 = 6 then 3 else 0) := ⟨_, rfl⟩
  have hc1 := c_L_join hl hR hI h6 s hsz b hbz
  rw [← hkk] at hc1
  refine e_aload_n dL_law_1028 rfl rfl ?_
  refine e_aloadY dL_law_1029 rfl rfl ?_
  refine e_iload dL_law_1030 rfl ?_
  refine e_iconst dL_law_1032 ?_
  refine e_iadd dL_law_1033 ?_
  refine e_sld (L := L) (f := f) rfl dL_law_1034 (by omega) (by omega) (fun y9 => ?_)
  rw [← hes] at y9 ⊢
  refine e_aloadY dL_law_1035 rfl rfl ?_
  refine e_iload dL_law_1036 rfl ?_
  refine e_iconst dL_law_1038 ?_
  refine e_iadd dL_law_1039 ?_
  refine e_sld (L := L) (f := f) rfl dL_law_1040 (by omega) (by omega) (fun y9 => ?_)
  rw [← heb] at y9 ⊢
  refine e_aload_n dL_law_1041 rfl rfl ?_
  refine e_callH (As := [zR _, zI _, zI _, zR _]) dL_law_1042 hoL_join mlL_174 rfl (Nat.le_of_ble_eq_true rfl) ⟨Nat.le_of_ble_eq_true rfl, Nat.le_of_ble_eq_true rfl, by show k + 8 ≤ 603072; omega, by show n + 237 ≤ 7207018; omega⟩ hc1 (fun E h1 q => (QL_inl q).elim) (fun v9 h1 q => ?_)
  obtain ⟨e1, qf, q6, qc⟩ := q
  cases e1
  refine e_istore dL_law_1045 (Nat.le_of_ble_eq_true rfl) rfl rfl ?_
  have hM1 := RM_fr (fun m m0 m1 => qf m (by omega)) hM
  have hc2 : zC l MX9_join [zR (some 99), zI s, zI b] h1 (QM S h1 kk (zI 0) (zI (S 2 0)) (joinS S s b)) := by
    rw [hkk]
    exact c_X9_join hl hM1 hN s b hsz hbz
  refine e_aload_n dL_law_1047 rfl rfl ?_
  refine e_aloadY dL_law_1048 rfl rfl ?_
  refine e_iload dL_law_1049 rfl ?_
  refine e_iconst dL_law_1051 ?_
  refine e_iadd dL_law_1052 ?_
  refine e_sld (L := L) (f := f) rfl dL_law_1053 (by omega) (by omega) (fun y9 => ?_)
  rw [← hes] at y9 ⊢
  refine e_aloadY dL_law_1054 rfl rfl ?_
  refine e_iload dL_law_1055 rfl ?_
  refine e_iconst dL_law_1057 ?_
  refine e_iadd dL_law_1058 ?_
  refine e_sld (L := L) (f := f) rfl dL_law_1059 (by omega) (by omega) (fun y9 => ?_)
  rw [← heb] at y9 ⊢
  refine e_callV (As := [zI _, zI _]) (cb := 10) dL_law_1060 moX9_join mvX9_join mlL_176 (by decide) rfl hM1.1 rfl (Nat.le_of_ble_eq_true rfl) ⟨Nat.le_of_ble_eq_true rfl, Nat.le_of_ble_eq_true rfl, by show k + 8 ≤ 603072; omega, by show n + 237 ≤ 7207018; omega⟩ hc2 (fun E h2 q => by rcases q.2 with ⟨-, z, -⟩ | ⟨-, z, -⟩ <;> cases z) (fun v9 h2 q => ?_)
  obtain ⟨t9, q2⟩ := q
  have hkn : 0 ≤ kk := by rcases qc with z | z <;> omega
  rcases q2 with ⟨k0, e1, hM2⟩ | ⟨k0, e1, hM2⟩
  · cases e1
    obtain ⟨-, qw, qR⟩ := qc.resolve_right (fun z => by omega)
    have hk0 := hkk.symm.trans k0
    obtain ⟨p1, hk1⟩ := kz hk0 (by decide)
    obtain ⟨p2, hk2⟩ := kz hk1 (by decide)
    obtain ⟨p3, hk3⟩ := kz hk2 (by decide)
    have hI5 : I4 (joinS S s b) (B + 2000) := I4_le (by omega) (I4_join hI4 (Classical.not_not.mp p1) (by omega) (by omega))
    refine e_istore dL_law_1063 (Nat.le_of_ble_eq_true rfl) rfl rfl ?_
    refine e_aload_n dL_law_1065 rfl rfl ?_
    refine e_callV (As := []) (cb := 10) dL_law_1066 moX9_thrown mvX9_thrown mlL_140 (by decide) rfl hM2.1.1 rfl (Nat.le_of_ble_eq_true rfl) ⟨Nat.le_of_ble_eq_true rfl, Nat.le_of_ble_eq_true rfl, by show k + 8 ≤ 603072; omega, by show n + 237 ≤ 7207018; omega⟩ (c_X9_thrown hl hM2.1) (fun E h9 q => by cases q.1) (fun v9 h9 q => ?_)
    obtain ⟨e1, e2⟩ := q
    cases e1
    rw [e2]
    clear e2 h9
    refine e_G (fun G2 => ?_)
    have z9 : zin kk := by rw [← t9]; exact G2.1 _ _
    rw [t9]
    refine e_iload dL_law_1069 rfl ?_
    refine e_icmp_eq (tgt := 1076) dL_law_1071 (by decide) z9 z9 (fun _ => ?_) (fun c => absurd rfl c)
    refine e_iload dL_law_1076 rfl ?_
    refine e_if_ne (tgt := 1093) dL_law_1078 (by decide) z9 (fun c => absurd k0 c) (fun _ => ?_)
    refine e_aload_n dL_law_1081 rfl rfl ?_
    refine e_iconst dL_law_1082 ?_
    refine e_lald dL_law_1083 ((hM2.2 6 (by decide)).1.trans q6.1) (by decide) (by rw [(hM2.2 6 (by decide)).2.1, q6.2]; decide) (((hM2.2 6 (by decide)).2.2.2.2.2.2.2.1 0).trans qw) ?_
    refine e_iload dL_law_1084 rfl ?_
    refine e_i2lw dL_law_1086 ?_
    refine e_lcmp_eq dL_law_1087 rfl ?_
    refine e_if_eq (tgt := 1093) dL_law_1088 (by decide) (by decide) (fun _ => ?_) (fun c => absurd rfl c)
    refine e_goto (tgt := 2542) dL_law_1093 (by decide) ?_
    refine e_mask [true, true, true, true, true, true, false, false, false] ?_
    refine e_wid (k + 10) (n + 11813) (by show k + 8 ≤ _; omega) (by show n + 237 ≤ _; omega) ?_
    exact K (joinS S s b) h2 ⟨hM2.1, RC_99 hM2.2 qR, hI5, ⟨(hM2.2 6 (by decide)).1.trans q6.1, (hM2.2 6 (by decide)).2.1.trans q6.2⟩, ⟨((hM2.2 7 (by decide)).1.trans (qf 7 (by decide)).1).trans h7.1, ((hM2.2 7 (by decide)).2.1.trans (qf 7 (by decide)).2.1).trans h7.2⟩, by omega⟩
  · cases e1
    have qR := (qc.resolve_left (fun z => by omega)).2
    have hI5 : I4 S (B + 2000) := I4_le (by omega) hI4
    refine e_istore dL_law_1063 (Nat.le_of_ble_eq_true rfl) rfl rfl ?_
    refine e_aload_n dL_law_1065 rfl rfl ?_
    refine e_callV (As := []) (cb := 10) dL_law_1066 moX9_thrown mvX9_thrown mlL_140 (by decide) rfl hM2.1.1 rfl (Nat.le_of_ble_eq_true rfl) ⟨Nat.le_of_ble_eq_true rfl, Nat.le_of_ble_eq_true rfl, by show k + 8 ≤ 603072; omega, by show n + 237 ≤ 7207018; omega⟩ (c_X9_thrown hl hM2.1) (fun E h9 q => by cases q.1) (fun v9 h9 q => ?_)
    obtain ⟨e1, e2⟩ := q
    cases e1
    rw [e2]
    clear e2 h9
    refine e_G (fun G2 => ?_)
    have z9 : zin kk := by rw [← t9]; exact G2.1 _ _
    rw [t9]
    refine e_iload dL_law_1069 rfl ?_
    refine e_icmp_eq (tgt := 1076) dL_law_1071 (by decide) z9 z9 (fun _ => ?_) (fun c => absurd rfl c)
    refine e_iload dL_law_1076 rfl ?_
    refine e_if_ne (tgt := 1093) dL_law_1078 (by decide) z9 (fun _ => ?_) (fun c => absurd c k0)
    refine e_goto (tgt := 2542) dL_law_1093 (by decide) ?_
    refine e_mask [true, true, true, true, true, true, false, false, false] ?_
    refine e_wid (k + 10) (n + 11813) (by show k + 8 ≤ _; omega) (by show n + 237 ≤ _; omega) ?_
    exact K S h2 ⟨hM2.1, RC_99 hM2.2 qR, hI5, ⟨(hM2.2 6 (by decide)).1.trans q6.1, (hM2.2 6 (by decide)).2.1.trans q6.2⟩, ⟨((hM2.2 7 (by decide)).1.trans (qf 7 (by decide)).1).trans h7.1, ((hM2.2 7 (by decide)).2.1.trans (qf 7 (by decide)).2.1).trans h7.2⟩, by omega⟩
set_option maxHeartbeats 4000000 in
set_option maxRecDepth 100000 in
theorem cs_bid {l : Launch} (hl : l.stackTraces = false) (hG : GMore l) {L : Nat} {f : Nat → Int32} {S : S9} {h : zH} {B i : Int} {k n : Nat} (i0 : 0 ≤ i) (i8 : i + 8 ≤ L) (hk : k + 10 ≤ 603072) (hn : n + 11813 ≤ 7207018) (hB9 : B ≤ 800000000) (hL0 : LI S B h) (K : ∀ S' h', LI S' (B + 2000) h' → AW l (MLW L f) QW (k + 10) (n + 11813) 2542 [zY, zR (some 2), zR (some 99), zR (some 6), zR (some 7), zI i, zX, zX, zX] [] h') : AW l (MLW L f) QW k n 1096 [zY, zR (some 2), zR (some 99), zR (some 6), zR (some 7), zI i, zX, zX, zX] [] h := by
  obtain ⟨hM, hR, hI4, h6, h7, hB0⟩ := hL0
  refine e_G (fun G => ?_)
  have hI := II_of G hM hI4
  have hN : IN S := hI4.1.1
  have hIW : IW S := hI4.1.2.1
  have hIO : IO S := hI4.1.2.2.1
  have hIC : IC S := hI4.1.2.2.2.1
  have hIK : IK S := hI4.1.2.2.2.2
  obtain ⟨n1, n2, n3, n4, n5⟩ := id hN
  obtain ⟨c, hec⟩ : ∃ z : Int, z = (f (i + 1).toNat).toInt := ⟨_, rfl⟩
  have hcz : zin c := by rw [hec]; exact ⟨Int32.le_toInt _, Int32.toInt_lt _⟩
  obtain ⟨b, heb⟩ : ∃ z : Int, z = (f (i + 2).toNat).toInt := ⟨_, rfl⟩
  have hbz : zin b := by rw [heb]; exact ⟨Int32.le_toInt _, Int32.toInt_lt _⟩
  obtain ⟨kk, hkk⟩ : ∃ kk : Int, kk = (if ¬ isC S c then 1 else if ¬ (0 ≤ b ∧ b ≤ 9) then 2 else 0) := ⟨_, rfl⟩
  have hc1 := c_L_bid hl hR hI h6 c hcz b hbz
  rw [← hkk] at hc1
  refine e_aload_n dL_law_1096 rfl rfl ?_
  refine e_aloadY dL_law_1097 rfl rfl ?_
  refine e_iload dL_law_1098 rfl ?_
  refine e_iconst dL_law_1100 ?_
  refine e_iadd dL_law_1101 ?_
  refine e_sld (L := L) (f := f) rfl dL_law_1102 (by omega) (by omega) (fun y9 => ?_)
  rw [← hec] at y9 ⊢
  refine e_aloadY dL_law_1103 rfl rfl ?_
  refine e_iload dL_law_1104 rfl ?_
  refine e_iconst dL_law_1106 ?_
  refine e_iadd dL_law_1107 ?_
  refine e_sld (L := L) (f := f) rfl dL_law_1108 (by omega) (by omega) (fun y9 => ?_)
  rw [← heb] at y9 ⊢
  refine e_aload_n dL_law_1109 rfl rfl ?_
  refine e_callH (As := [zR _, zI _, zI _, zR _]) dL_law_1110 hoL_bid mlL_177 rfl (Nat.le_of_ble_eq_true rfl) ⟨Nat.le_of_ble_eq_true rfl, Nat.le_of_ble_eq_true rfl, by show k + 2 ≤ 603072; omega, by show n + 12 ≤ 7207018; omega⟩ hc1 (fun E h1 q => (QL_inl q).elim) (fun v9 h1 q => ?_)
  obtain ⟨e1, qf, q6, qc⟩ := q
  cases e1
  refine e_istore dL_law_1113 (Nat.le_of_ble_eq_true rfl) rfl rfl ?_
  have hM1 := RM_fr (fun m m0 m1 => qf m (by omega)) hM
  have hc2 : zC l MX9_bid [zR (some 99), zI c, zI b] h1 (QM S h1 kk (zI 0) (zI (S 36 c)) (up S 36 c b)) := by
    rw [hkk]
    exact c_X9_bid hl hM1 hN c hcz b hbz
  refine e_aload_n dL_law_1115 rfl rfl ?_
  refine e_aloadY dL_law_1116 rfl rfl ?_
  refine e_iload dL_law_1117 rfl ?_
  refine e_iconst dL_law_1119 ?_
  refine e_iadd dL_law_1120 ?_
  refine e_sld (L := L) (f := f) rfl dL_law_1121 (by omega) (by omega) (fun y9 => ?_)
  rw [← hec] at y9 ⊢
  refine e_aloadY dL_law_1122 rfl rfl ?_
  refine e_iload dL_law_1123 rfl ?_
  refine e_iconst dL_law_1125 ?_
  refine e_iadd dL_law_1126 ?_
  refine e_sld (L := L) (f := f) rfl dL_law_1127 (by omega) (by omega) (fun y9 => ?_)
  rw [← heb] at y9 ⊢
  refine e_callV (As := [zI _, zI _]) (cb := 10) dL_law_1128 moX9_bid mvX9_bid mlL_179 (by decide) rfl hM1.1 rfl (Nat.le_of_ble_eq_true rfl) ⟨Nat.le_of_ble_eq_true rfl, Nat.le_of_ble_eq_true rfl, by show k + 2 ≤ 603072; omega, by show n + 12 ≤ 7207018; omega⟩ hc2 (fun E h2 q => by rcases q.2 with ⟨-, z, -⟩ | ⟨-, z, -⟩ <;> cases z) (fun v9 h2 q => ?_)
  obtain ⟨t9, q2⟩ := q
  have hkn : 0 ≤ kk := by rcases qc with z | z <;> omega
  rcases q2 with ⟨k0, e1, hM2⟩ | ⟨k0, e1, hM2⟩
  · cases e1
    obtain ⟨-, qw, qR⟩ := qc.resolve_right (fun z => by omega)
    have hk0 := hkk.symm.trans k0
    obtain ⟨p1, hk1⟩ := kz hk0 (by decide)
    obtain ⟨p2, hk2⟩ := kz hk1 (by decide)
    have hI5 : I4 (up S 36 c b) (B + 2000) := I4_le (by omega) (I4_bid hI4 (Classical.not_not.mp p1) (by omega))
    refine e_istore dL_law_1131 (Nat.le_of_ble_eq_true rfl) rfl rfl ?_
    refine e_aload_n dL_law_1133 rfl rfl ?_
    refine e_callV (As := []) (cb := 10) dL_law_1134 moX9_thrown mvX9_thrown mlL_140 (by decide) rfl hM2.1.1 rfl (Nat.le_of_ble_eq_true rfl) ⟨Nat.le_of_ble_eq_true rfl, Nat.le_of_ble_eq_true rfl, by show k + 2 ≤ 603072; omega, by show n + 12 ≤ 7207018; omega⟩ (c_X9_thrown hl hM2.1) (fun E h9 q => by cases q.1) (fun v9 h9 q => ?_)
    obtain ⟨e1, e2⟩ := q
    cases e1
    rw [e2]
    clear e2 h9
    refine e_G (fun G2 => ?_)
    have z9 : zin kk := by rw [← t9]; exact G2.1 _ _
    rw [t9]
    refine e_iload dL_law_1137 rfl ?_
    refine e_icmp_eq (tgt := 1144) dL_law_1139 (by decide) z9 z9 (fun _ => ?_) (fun c => absurd rfl c)
    refine e_iload dL_law_1144 rfl ?_
    refine e_if_ne (tgt := 1161) dL_law_1146 (by decide) z9 (fun c => absurd k0 c) (fun _ => ?_)
    refine e_aload_n dL_law_1149 rfl rfl ?_
    refine e_iconst dL_law_1150 ?_
    refine e_lald dL_law_1151 ((hM2.2 6 (by decide)).1.trans q6.1) (by decide) (by rw [(hM2.2 6 (by decide)).2.1, q6.2]; decide) (((hM2.2 6 (by decide)).2.2.2.2.2.2.2.1 0).trans qw) ?_
    refine e_iload dL_law_1152 rfl ?_
    refine e_i2lw dL_law_1154 ?_
    refine e_lcmp_eq dL_law_1155 rfl ?_
    refine e_if_eq (tgt := 1161) dL_law_1156 (by decide) (by decide) (fun _ => ?_) (fun c => absurd rfl c)
    refine e_goto (tgt := 2542) dL_law_1161 (by decide) ?_
    refine e_mask [true, true, true, true, true, true, false, false, false] ?_
    refine e_wid (k + 10) (n + 11813) (by show k + 2 ≤ _; omega) (by show n + 12 ≤ _; omega) ?_
    exact K (up S 36 c b) h2 ⟨hM2.1, RC_99 hM2.2 qR, hI5, ⟨(hM2.2 6 (by decide)).1.trans q6.1, (hM2.2 6 (by decide)).2.1.trans q6.2⟩, ⟨((hM2.2 7 (by decide)).1.trans (qf 7 (by decide)).1).trans h7.1, ((hM2.2 7 (by decide)).2.1.trans (qf 7 (by decide)).2.1).trans h7.2⟩, by omega⟩
  · cases e1
    have qR := (qc.resolve_left (fun z => by omega)).2
    have hI5 : I4 S (B + 2000) := I4_le (by omega) hI4
    refine e_istore dL_law_1131 (Nat.le_of_ble_eq_true rfl) rfl rfl ?_
    refine e_aload_n dL_law_1133 rfl rfl ?_
    refine e_callV (As := []) (cb := 10) dL_law_1134 moX9_thrown mvX9_thrown mlL_140 (by decide) rfl hM2.1.1 rfl (Nat.le_of_ble_eq_true rfl) ⟨Nat.le_of_ble_eq_true rfl, Nat.le_of_ble_eq_true rfl, by show k + 2 ≤ 603072; omega, by show n + 12 ≤ 7207018; omega⟩ (c_X9_thrown hl hM2.1) (fun E h9 q => by cases q.1) (fun v9 h9 q => ?_)
    obtain ⟨e1, e2⟩ := q
    cases e1
    rw [e2]
    clear e2 h9
    refine e_G (fun G2 => ?_)
    have z9 : zin kk := by rw [← t9]; exact G2.1 _ _
    rw [t9]
    refine e_iload dL_law_1137 rfl ?_
    refine e_icmp_eq (tgt := 1144) dL_law_1139 (by decide) z9 z9 (fun _ => ?_) (fun c => absurd rfl c)
    refine e_iload dL_law_1144 rfl ?_
    refine e_if_ne (tgt := 1161) dL_law_1146 (by decide) z9 (fun _ => ?_) (fun c => absurd c k0)
    refine e_goto (tgt := 2542) dL_law_1161 (by decide) ?_
    refine e_mask [true, true, true, true, true, true, false, false, false] ?_
    refine e_wid (k + 10) (n + 11813) (by show k + 2 ≤ _; omega) (by show n + 12 ≤ _; omega) ?_
    exact K S h2 ⟨hM2.1, RC_99 hM2.2 qR, hI5, ⟨(hM2.2 6 (by decide)).1.trans q6.1, (hM2.2 6 (by decide)).2.1.trans q6.2⟩, ⟨((hM2.2 7 (by decide)).1.trans (qf 7 (by decide)).1).trans h7.1, ((hM2.2 7 (by decide)).2.1.trans (qf 7 (by decide)).2.1).trans h7.2⟩, by omega⟩
set_option maxHeartbeats 4000000 in
set_option maxRecDepth 100000 in
theorem cs_money {l : Launch} (hl : l.stackTraces = false) (hG : GMore l) {L : Nat} {f : Nat → Int32} {S : S9} {h : zH} {B i : Int} {k n : Nat} (i0 : 0 ≤ i) (i8 : i + 8 ≤ L) (hk : k + 10 ≤ 603072) (hn : n + 11813 ≤ 7207018) (hB9 : B ≤ 800000000) (hL0 : LI S B h) (K : ∀ S' h', LI S' (B + 2000) h' → AW l (MLW L f) QW (k + 10) (n + 11813) 2542 [zY, zR (some 2), zR (some 99), zR (some 6), zR (some 7), zI i, zX, zX, zX] [] h') : AW l (MLW L f) QW k n 1164 [zY, zR (some 2), zR (some 99), zR (some 6), zR (some 7), zI i, zX, zX, zX] [] h := by
  obtain ⟨hM, hR, hI4, h6, h7, hB0⟩ := hL0
  refine e_G (fun G => ?_)
  have hI := II_of G hM hI4
  have hN : IN S := hI4.1.1
  have hIW : IW S := hI4.1.2.1
  have hIO : IO S := hI4.1.2.2.1
  have hIC : IC S := hI4.1.2.2.2.1
  have hIK : IK S := hI4.1.2.2.2.2
  obtain ⟨n1, n2, n3, n4, n5⟩ := id hN
  obtain ⟨c, hec⟩ : ∃ z : Int, z = (f (i + 1).toNat).toInt := ⟨_, rfl⟩
  have hcz : zin c := by rw [hec]; exact ⟨Int32.le_toInt _, Int32.toInt_lt _⟩
  obtain ⟨kk, hkk⟩ : ∃ kk : Int, kk = (if ¬ isC S c then 1 else 0) := ⟨_, rfl⟩
  have hc1 := c_L_money hl hR hI h6 c hcz
  rw [← hkk] at hc1
  refine e_aload_n dL_law_1164 rfl rfl ?_
  refine e_aloadY dL_law_1165 rfl rfl ?_
  refine e_iload dL_law_1166 rfl ?_
  refine e_iconst dL_law_1168 ?_
  refine e_iadd dL_law_1169 ?_
  refine e_sld (L := L) (f := f) rfl dL_law_1170 (by omega) (by omega) (fun y9 => ?_)
  rw [← hec] at y9 ⊢
  refine e_aload_n dL_law_1171 rfl rfl ?_
  refine e_callH (As := [zR _, zI _, zR _]) dL_law_1172 hoL_money mlL_180 rfl (Nat.le_of_ble_eq_true rfl) ⟨Nat.le_of_ble_eq_true rfl, Nat.le_of_ble_eq_true rfl, by show k + 1 ≤ 603072; omega, by show n + 6 ≤ 7207018; omega⟩ hc1 (fun E h1 q => (QL_inl q).elim) (fun v9 h1 q => ?_)
  obtain ⟨e1, qf, q6, qc⟩ := q
  cases e1
  refine e_istore dL_law_1175 (Nat.le_of_ble_eq_true rfl) rfl rfl ?_
  have hM1 := RM_fr (fun m m0 m1 => qf m (by omega)) hM
  have hc2 : zC l MX9_money [zR (some 99), zI c] h1 (QM S h1 kk (zI 0) (zI (S 37 c)) S) := by
    rw [hkk]
    exact c_X9_money hl hM1 hN c hcz
  refine e_aload_n dL_law_1177 rfl rfl ?_
  refine e_aloadY dL_law_1178 rfl rfl ?_
  refine e_iload dL_law_1179 rfl ?_
  refine e_iconst dL_law_1181 ?_
  refine e_iadd dL_law_1182 ?_
  refine e_sld (L := L) (f := f) rfl dL_law_1183 (by omega) (by omega) (fun y9 => ?_)
  rw [← hec] at y9 ⊢
  refine e_callV (As := [zI _]) (cb := 10) dL_law_1184 moX9_money mvX9_money mlL_183 (by decide) rfl hM1.1 rfl (Nat.le_of_ble_eq_true rfl) ⟨Nat.le_of_ble_eq_true rfl, Nat.le_of_ble_eq_true rfl, by show k + 1 ≤ 603072; omega, by show n + 6 ≤ 7207018; omega⟩ hc2 (fun E h2 q => by rcases q.2 with ⟨-, z, -⟩ | ⟨-, z, -⟩ <;> cases z) (fun v9 h2 q => ?_)
  obtain ⟨t9, q2⟩ := q
  have hkn : 0 ≤ kk := by rcases qc with z | z <;> omega
  rcases q2 with ⟨k0, e1, hM2⟩ | ⟨k0, e1, hM2⟩
  · cases e1
    obtain ⟨-, qw, qR⟩ := qc.resolve_right (fun z => by omega)
    have hk0 := hkk.symm.trans k0
    obtain ⟨p1, hk1⟩ := kz hk0 (by decide)
    have hI5 : I4 S (B + 2000) := I4_le (by omega) (hI4)
    refine e_istore dL_law_1187 (Nat.le_of_ble_eq_true rfl) rfl rfl ?_
    refine e_aload_n dL_law_1189 rfl rfl ?_
    refine e_callV (As := []) (cb := 10) dL_law_1190 moX9_thrown mvX9_thrown mlL_140 (by decide) rfl hM2.1.1 rfl (Nat.le_of_ble_eq_true rfl) ⟨Nat.le_of_ble_eq_true rfl, Nat.le_of_ble_eq_true rfl, by show k + 1 ≤ 603072; omega, by show n + 6 ≤ 7207018; omega⟩ (c_X9_thrown hl hM2.1) (fun E h9 q => by cases q.1) (fun v9 h9 q => ?_)
    obtain ⟨e1, e2⟩ := q
    cases e1
    rw [e2]
    clear e2 h9
    refine e_G (fun G2 => ?_)
    have z9 : zin kk := by rw [← t9]; exact G2.1 _ _
    rw [t9]
    refine e_iload dL_law_1193 rfl ?_
    refine e_icmp_eq (tgt := 1200) dL_law_1195 (by decide) z9 z9 (fun _ => ?_) (fun c => absurd rfl c)
    refine e_iload dL_law_1200 rfl ?_
    refine e_if_ne (tgt := 1217) dL_law_1202 (by decide) z9 (fun c => absurd k0 c) (fun _ => ?_)
    refine e_aload_n dL_law_1205 rfl rfl ?_
    refine e_iconst dL_law_1206 ?_
    refine e_lald dL_law_1207 ((hM2.2 6 (by decide)).1.trans q6.1) (by decide) (by rw [(hM2.2 6 (by decide)).2.1, q6.2]; decide) (((hM2.2 6 (by decide)).2.2.2.2.2.2.2.1 0).trans qw) ?_
    refine e_iload dL_law_1208 rfl ?_
    refine e_i2lw dL_law_1210 ?_
    refine e_lcmp_eq dL_law_1211 rfl ?_
    refine e_if_eq (tgt := 1217) dL_law_1212 (by decide) (by decide) (fun _ => ?_) (fun c => absurd rfl c)
    refine e_goto (tgt := 2542) dL_law_1217 (by decide) ?_
    refine e_mask [true, true, true, true, true, true, false, false, false] ?_
    refine e_wid (k + 10) (n + 11813) (by show k + 1 ≤ _; omega) (by show n + 6 ≤ _; omega) ?_
    exact K S h2 ⟨hM2.1, RC_99 hM2.2 qR, hI5, ⟨(hM2.2 6 (by decide)).1.trans q6.1, (hM2.2 6 (by decide)).2.1.trans q6.2⟩, ⟨((hM2.2 7 (by decide)).1.trans (qf 7 (by decide)).1).trans h7.1, ((hM2.2 7 (by decide)).2.1.trans (qf 7 (by decide)).2.1).trans h7.2⟩, by omega⟩
  · cases e1
    have qR := (qc.resolve_left (fun z => by omega)).2
    have hI5 : I4 S (B + 2000) := I4_le (by omega) hI4
    refine e_istore dL_law_1187 (Nat.le_of_ble_eq_true rfl) rfl rfl ?_
    refine e_aload_n dL_law_1189 rfl rfl ?_
    refine e_callV (As := []) (cb := 10) dL_law_1190 moX9_thrown mvX9_thrown mlL_140 (by decide) rfl hM2.1.1 rfl (Nat.le_of_ble_eq_true rfl) ⟨Nat.le_of_ble_eq_true rfl, Nat.le_of_ble_eq_true rfl, by show k + 1 ≤ 603072; omega, by show n + 6 ≤ 7207018; omega⟩ (c_X9_thrown hl hM2.1) (fun E h9 q => by cases q.1) (fun v9 h9 q => ?_)
    obtain ⟨e1, e2⟩ := q
    cases e1
    rw [e2]
    clear e2 h9
    refine e_G (fun G2 => ?_)
    have z9 : zin kk := by rw [← t9]; exact G2.1 _ _
    rw [t9]
    refine e_iload dL_law_1193 rfl ?_
    refine e_icmp_eq (tgt := 1200) dL_law_1195 (by decide) z9 z9 (fun _ => ?_) (fun c => absurd rfl c)
    refine e_iload dL_law_1200 rfl ?_
    refine e_if_ne (tgt := 1217) dL_law_1202 (by decide) z9 (fun _ => ?_) (fun c => absurd c k0)
    refine e_goto (tgt := 2542) dL_law_1217 (by decide) ?_
    refine e_mask [true, true, true, true, true, true, false, false, false] ?_
    refine e_wid (k + 10) (n + 11813) (by show k + 1 ≤ _; omega) (by show n + 6 ≤ _; omega) ?_
    exact K S h2 ⟨hM2.1, RC_99 hM2.2 qR, hI5, ⟨(hM2.2 6 (by decide)).1.trans q6.1, (hM2.2 6 (by decide)).2.1.trans q6.2⟩, ⟨((hM2.2 7 (by decide)).1.trans (qf 7 (by decide)).1).trans h7.1, ((hM2.2 7 (by decide)).2.1.trans (qf 7 (by decide)).2.1).trans h7.2⟩, by omega⟩
set_option maxHeartbeats 4000000 in
set_option maxRecDepth 100000 in
theorem cs_picture {l : Launch} (hl : l.stackTraces = false) (hG : GMore l) {L : Nat} {f : Nat → Int32} {S : S9} {h : zH} {B i : Int} {k n : Nat} (i0 : 0 ≤ i) (i8 : i + 8 ≤ L) (hk : k + 10 ≤ 603072) (hn : n + 11813 ≤ 7207018) (hB9 : B ≤ 800000000) (hL0 : LI S B h) (K : ∀ S' h', LI S' (B + 2000) h' → AW l (MLW L f) QW (k + 10) (n + 11813) 2542 [zY, zR (some 2), zR (some 99), zR (some 6), zR (some 7), zI i, zX, zX, zX] [] h') : AW l (MLW L f) QW k n 1220 [zY, zR (some 2), zR (some 99), zR (some 6), zR (some 7), zI i, zX, zX, zX] [] h := by
  obtain ⟨hM, hR, hI4, h6, h7, hB0⟩ := hL0
  refine e_G (fun G => ?_)
  have hI := II_of G hM hI4
  have hN : IN S := hI4.1.1
  have hIW : IW S := hI4.1.2.1
  have hIO : IO S := hI4.1.2.2.1
  have hIC : IC S := hI4.1.2.2.2.1
  have hIK : IK S := hI4.1.2.2.2.2
  obtain ⟨n1, n2, n3, n4, n5⟩ := id hN
  obtain ⟨c, hec⟩ : ∃ z : Int, z = (f (i + 1).toNat).toInt := ⟨_, rfl⟩
  have hcz : zin c := by rw [hec]; exact ⟨Int32.le_toInt _, Int32.toInt_lt _⟩
  obtain ⟨x, hex⟩ : ∃ z : Int, z = (f (i + 2).toNat).toInt := ⟨_, rfl⟩
  have hxz : zin x := by rw [hex]; exact ⟨Int32.le_toInt _, Int32.toInt_lt _⟩
  obtain ⟨y, hey⟩ : ∃ z : Int, z = (f (i + 3).toNat).toInt := ⟨_, rfl⟩
  have hyz : zin y := by rw [hey]; exact ⟨Int32.le_toInt _, Int32.toInt_lt _⟩
  obtain ⟨kk, hkk⟩ : ∃ kk : Int, kk = (if ¬ (isC S c ∧ isXY x y) then 1 else 0) := ⟨_, rfl⟩
  have hc1 := c_L_picture hl hR hI h6 c hcz x hxz y hyz
  rw [← hkk] at hc1
  refine e_aload_n dL_law_1220 rfl rfl ?_
  refine e_aloadY dL_law_1221 rfl rfl ?_
  refine e_iload dL_law_1222 rfl ?_
  refine e_iconst dL_law_1224 ?_
  refine e_iadd dL_law_1225 ?_
  refine e_sld (L := L) (f := f) rfl dL_law_1226 (by omega) (by omega) (fun y9 => ?_)
  rw [← hec] at y9 ⊢
  refine e_aloadY dL_law_1227 rfl rfl ?_
  refine e_iload dL_law_1228 rfl ?_
  refine e_iconst dL_law_1230 ?_
  refine e_iadd dL_law_1231 ?_
  refine e_sld (L := L) (f := f) rfl dL_law_1232 (by omega) (by omega) (fun y9 => ?_)
  rw [← hex] at y9 ⊢
  refine e_aloadY dL_law_1233 rfl rfl ?_
  refine e_iload dL_law_1234 rfl ?_
  refine e_iconst dL_law_1236 ?_
  refine e_iadd dL_law_1237 ?_
  refine e_sld (L := L) (f := f) rfl dL_law_1238 (by omega) (by omega) (fun y9 => ?_)
  rw [← hey] at y9 ⊢
  refine e_aload_n dL_law_1239 rfl rfl ?_
  refine e_callH (As := [zR _, zI _, zI _, zI _, zR _]) dL_law_1240 hoL_picture mlL_184 rfl (Nat.le_of_ble_eq_true rfl) ⟨Nat.le_of_ble_eq_true rfl, Nat.le_of_ble_eq_true rfl, by show k + 2 ≤ 603072; omega, by show n + 12 ≤ 7207018; omega⟩ hc1 (fun E h1 q => (QL_inl q).elim) (fun v9 h1 q => ?_)
  obtain ⟨e1, qf, q6, qc⟩ := q
  cases e1
  refine e_istore dL_law_1243 (Nat.le_of_ble_eq_true rfl) rfl rfl ?_
  have hM1 := RM_fr (fun m m0 m1 => qf m (by omega)) hM
  have hc2 : zC l MX9_picture [zR (some 99), zI c, zI x, zI y] h1 (QM S h1 kk (zI 0) (zI (S 40 (96 * c + (y * 12 + x)))) S) := by
    rw [hkk]
    exact c_X9_picture hl hM1 hN c hcz x y hxz hyz
  refine e_aload_n dL_law_1245 rfl rfl ?_
  refine e_aloadY dL_law_1246 rfl rfl ?_
  refine e_iload dL_law_1247 rfl ?_
  refine e_iconst dL_law_1249 ?_
  refine e_iadd dL_law_1250 ?_
  refine e_sld (L := L) (f := f) rfl dL_law_1251 (by omega) (by omega) (fun y9 => ?_)
  rw [← hec] at y9 ⊢
  refine e_aloadY dL_law_1252 rfl rfl ?_
  refine e_iload dL_law_1253 rfl ?_
  refine e_iconst dL_law_1255 ?_
  refine e_iadd dL_law_1256 ?_
  refine e_sld (L := L) (f := f) rfl dL_law_1257 (by omega) (by omega) (fun y9 => ?_)
  rw [← hex] at y9 ⊢
  refine e_aloadY dL_law_1258 rfl rfl ?_
  refine e_iload dL_law_1259 rfl ?_
  refine e_iconst dL_law_1261 ?_
  refine e_iadd dL_law_1262 ?_
  refine e_sld (L := L) (f := f) rfl dL_law_1263 (by omega) (by omega) (fun y9 => ?_)
  rw [← hey] at y9 ⊢
  refine e_callV (As := [zI _, zI _, zI _]) (cb := 10) dL_law_1264 moX9_picture mvX9_picture mlL_186 (by decide) rfl hM1.1 rfl (Nat.le_of_ble_eq_true rfl) ⟨Nat.le_of_ble_eq_true rfl, Nat.le_of_ble_eq_true rfl, by show k + 2 ≤ 603072; omega, by show n + 12 ≤ 7207018; omega⟩ hc2 (fun E h2 q => by rcases q.2 with ⟨-, z, -⟩ | ⟨-, z, -⟩ <;> cases z) (fun v9 h2 q => ?_)
  obtain ⟨t9, q2⟩ := q
  have hkn : 0 ≤ kk := by rcases qc with z | z <;> omega
  rcases q2 with ⟨k0, e1, hM2⟩ | ⟨k0, e1, hM2⟩
  · cases e1
    obtain ⟨-, qw, qR⟩ := qc.resolve_right (fun z => by omega)
    have hk0 := hkk.symm.trans k0
    obtain ⟨p1, hk1⟩ := kz hk0 (by decide)
    have hI5 : I4 S (B + 2000) := I4_le (by omega) (hI4)
    refine e_istore dL_law_1267 (Nat.le_of_ble_eq_true rfl) rfl rfl ?_
    refine e_aload_n dL_law_1269 rfl rfl ?_
    refine e_callV (As := []) (cb := 10) dL_law_1270 moX9_thrown mvX9_thrown mlL_140 (by decide) rfl hM2.1.1 rfl (Nat.le_of_ble_eq_true rfl) ⟨Nat.le_of_ble_eq_true rfl, Nat.le_of_ble_eq_true rfl, by show k + 2 ≤ 603072; omega, by show n + 12 ≤ 7207018; omega⟩ (c_X9_thrown hl hM2.1) (fun E h9 q => by cases q.1) (fun v9 h9 q => ?_)
    obtain ⟨e1, e2⟩ := q
    cases e1
    rw [e2]
    clear e2 h9
    refine e_G (fun G2 => ?_)
    have z9 : zin kk := by rw [← t9]; exact G2.1 _ _
    rw [t9]
    refine e_iload dL_law_1273 rfl ?_
    refine e_icmp_eq (tgt := 1280) dL_law_1275 (by decide) z9 z9 (fun _ => ?_) (fun c => absurd rfl c)
    refine e_iload dL_law_1280 rfl ?_
    refine e_if_ne (tgt := 1297) dL_law_1282 (by decide) z9 (fun c => absurd k0 c) (fun _ => ?_)
    refine e_aload_n dL_law_1285 rfl rfl ?_
    refine e_iconst dL_law_1286 ?_
    refine e_lald dL_law_1287 ((hM2.2 6 (by decide)).1.trans q6.1) (by decide) (by rw [(hM2.2 6 (by decide)).2.1, q6.2]; decide) (((hM2.2 6 (by decide)).2.2.2.2.2.2.2.1 0).trans qw) ?_
    refine e_iload dL_law_1288 rfl ?_
    refine e_i2lw dL_law_1290 ?_
    refine e_lcmp_eq dL_law_1291 rfl ?_
    refine e_if_eq (tgt := 1297) dL_law_1292 (by decide) (by decide) (fun _ => ?_) (fun c => absurd rfl c)
    refine e_goto (tgt := 2542) dL_law_1297 (by decide) ?_
    refine e_mask [true, true, true, true, true, true, false, false, false] ?_
    refine e_wid (k + 10) (n + 11813) (by show k + 2 ≤ _; omega) (by show n + 12 ≤ _; omega) ?_
    exact K S h2 ⟨hM2.1, RC_99 hM2.2 qR, hI5, ⟨(hM2.2 6 (by decide)).1.trans q6.1, (hM2.2 6 (by decide)).2.1.trans q6.2⟩, ⟨((hM2.2 7 (by decide)).1.trans (qf 7 (by decide)).1).trans h7.1, ((hM2.2 7 (by decide)).2.1.trans (qf 7 (by decide)).2.1).trans h7.2⟩, by omega⟩
  · cases e1
    have qR := (qc.resolve_left (fun z => by omega)).2
    have hI5 : I4 S (B + 2000) := I4_le (by omega) hI4
    refine e_istore dL_law_1267 (Nat.le_of_ble_eq_true rfl) rfl rfl ?_
    refine e_aload_n dL_law_1269 rfl rfl ?_
    refine e_callV (As := []) (cb := 10) dL_law_1270 moX9_thrown mvX9_thrown mlL_140 (by decide) rfl hM2.1.1 rfl (Nat.le_of_ble_eq_true rfl) ⟨Nat.le_of_ble_eq_true rfl, Nat.le_of_ble_eq_true rfl, by show k + 2 ≤ 603072; omega, by show n + 12 ≤ 7207018; omega⟩ (c_X9_thrown hl hM2.1) (fun E h9 q => by cases q.1) (fun v9 h9 q => ?_)
    obtain ⟨e1, e2⟩ := q
    cases e1
    rw [e2]
    clear e2 h9
    refine e_G (fun G2 => ?_)
    have z9 : zin kk := by rw [← t9]; exact G2.1 _ _
    rw [t9]
    refine e_iload dL_law_1273 rfl ?_
    refine e_icmp_eq (tgt := 1280) dL_law_1275 (by decide) z9 z9 (fun _ => ?_) (fun c => absurd rfl c)
    refine e_iload dL_law_1280 rfl ?_
    refine e_if_ne (tgt := 1297) dL_law_1282 (by decide) z9 (fun _ => ?_) (fun c => absurd c k0)
    refine e_goto (tgt := 2542) dL_law_1297 (by decide) ?_
    refine e_mask [true, true, true, true, true, true, false, false, false] ?_
    refine e_wid (k + 10) (n + 11813) (by show k + 2 ≤ _; omega) (by show n + 12 ≤ _; omega) ?_
    exact K S h2 ⟨hM2.1, RC_99 hM2.2 qR, hI5, ⟨(hM2.2 6 (by decide)).1.trans q6.1, (hM2.2 6 (by decide)).2.1.trans q6.2⟩, ⟨((hM2.2 7 (by decide)).1.trans (qf 7 (by decide)).1).trans h7.1, ((hM2.2 7 (by decide)).2.1.trans (qf 7 (by decide)).2.1).trans h7.2⟩, by omega⟩
set_option maxHeartbeats 4000000 in
set_option maxRecDepth 100000 in
theorem cs_seen {l : Launch} (hl : l.stackTraces = false) (hG : GMore l) {L : Nat} {f : Nat → Int32} {S : S9} {h : zH} {B i : Int} {k n : Nat} (i0 : 0 ≤ i) (i8 : i + 8 ≤ L) (hk : k + 10 ≤ 603072) (hn : n + 11813 ≤ 7207018) (hB9 : B ≤ 800000000) (hL0 : LI S B h) (K : ∀ S' h', LI S' (B + 2000) h' → AW l (MLW L f) QW (k + 10) (n + 11813) 2542 [zY, zR (some 2), zR (some 99), zR (some 6), zR (some 7), zI i, zX, zX, zX] [] h') : AW l (MLW L f) QW k n 1300 [zY, zR (some 2), zR (some 99), zR (some 6), zR (some 7), zI i, zX, zX, zX] [] h := by
  obtain ⟨hM, hR, hI4, h6, h7, hB0⟩ := hL0
  refine e_G (fun G => ?_)
  have hI := II_of G hM hI4
  have hN : IN S := hI4.1.1
  have hIW : IW S := hI4.1.2.1
  have hIO : IO S := hI4.1.2.2.1
  have hIC : IC S := hI4.1.2.2.2.1
  have hIK : IK S := hI4.1.2.2.2.2
  obtain ⟨n1, n2, n3, n4, n5⟩ := id hN
  obtain ⟨c, hec⟩ : ∃ z : Int, z = (f (i + 1).toNat).toInt := ⟨_, rfl⟩
  have hcz : zin c := by rw [hec]; exact ⟨Int32.le_toInt _, Int32.toInt_lt _⟩
  obtain ⟨x, hex⟩ : ∃ z : Int, z = (f (i + 2).toNat).toInt := ⟨_, rfl⟩
  have hxz : zin x := by rw [hex]; exact ⟨Int32.le_toInt _, Int32.toInt_lt _⟩
  obtain ⟨y, hey⟩ : ∃ z : Int, z = (f (i + 3).toNat).toInt := ⟨_, rfl⟩
  have hyz : zin y := by rw [hey]; exact ⟨Int32.le_toInt _, Int32.toInt_lt _⟩
  obtain ⟨kk, hkk⟩ : ∃ kk : Int, kk = (if ¬ (isC S c ∧ isXY x y) then 1 else 0) := ⟨_, rfl⟩
  have hc1 := c_L_seen hl hR hI h6 c hcz x hxz y hyz
  rw [← hkk] at hc1
  refine e_aload_n dL_law_1300 rfl rfl ?_
  refine e_aloadY dL_law_1301 rfl rfl ?_
  refine e_iload dL_law_1302 rfl ?_
  refine e_iconst dL_law_1304 ?_
  refine e_iadd dL_law_1305 ?_
  refine e_sld (L := L) (f := f) rfl dL_law_1306 (by omega) (by omega) (fun y9 => ?_)
  rw [← hec] at y9 ⊢
  refine e_aloadY dL_law_1307 rfl rfl ?_
  refine e_iload dL_law_1308 rfl ?_
  refine e_iconst dL_law_1310 ?_
  refine e_iadd dL_law_1311 ?_
  refine e_sld (L := L) (f := f) rfl dL_law_1312 (by omega) (by omega) (fun y9 => ?_)
  rw [← hex] at y9 ⊢
  refine e_aloadY dL_law_1313 rfl rfl ?_
  refine e_iload dL_law_1314 rfl ?_
  refine e_iconst dL_law_1316 ?_
  refine e_iadd dL_law_1317 ?_
  refine e_sld (L := L) (f := f) rfl dL_law_1318 (by omega) (by omega) (fun y9 => ?_)
  rw [← hey] at y9 ⊢
  refine e_aload_n dL_law_1319 rfl rfl ?_
  refine e_callH (As := [zR _, zI _, zI _, zI _, zR _]) dL_law_1320 hoL_seen mlL_187 rfl (Nat.le_of_ble_eq_true rfl) ⟨Nat.le_of_ble_eq_true rfl, Nat.le_of_ble_eq_true rfl, by show k + 2 ≤ 603072; omega, by show n + 12 ≤ 7207018; omega⟩ hc1 (fun E h1 q => (QL_inl q).elim) (fun v9 h1 q => ?_)
  obtain ⟨e1, qf, q6, qc⟩ := q
  cases e1
  refine e_istore dL_law_1323 (Nat.le_of_ble_eq_true rfl) rfl rfl ?_
  have hM1 := RM_fr (fun m m0 m1 => qf m (by omega)) hM
  have hc2 : zC l MX9_seen [zR (some 99), zI c, zI x, zI y] h1 (QM S h1 kk (zI 0) (zI (seen S c (y * 12 + x))) S) := by
    rw [hkk]
    exact c_X9_seen hl hM1 hN hIW hIO hIC hIK c hcz x y hxz hyz
  refine e_aload_n dL_law_1325 rfl rfl ?_
  refine e_aloadY dL_law_1326 rfl rfl ?_
  refine e_iload dL_law_1327 rfl ?_
  refine e_iconst dL_law_1329 ?_
  refine e_iadd dL_law_1330 ?_
  refine e_sld (L := L) (f := f) rfl dL_law_1331 (by omega) (by omega) (fun y9 => ?_)
  rw [← hec] at y9 ⊢
  refine e_aloadY dL_law_1332 rfl rfl ?_
  refine e_iload dL_law_1333 rfl ?_
  refine e_iconst dL_law_1335 ?_
  refine e_iadd dL_law_1336 ?_
  refine e_sld (L := L) (f := f) rfl dL_law_1337 (by omega) (by omega) (fun y9 => ?_)
  rw [← hex] at y9 ⊢
  refine e_aloadY dL_law_1338 rfl rfl ?_
  refine e_iload dL_law_1339 rfl ?_
  refine e_iconst dL_law_1341 ?_
  refine e_iadd dL_law_1342 ?_
  refine e_sld (L := L) (f := f) rfl dL_law_1343 (by omega) (by omega) (fun y9 => ?_)
  rw [← hey] at y9 ⊢
  refine e_callV (As := [zI _, zI _, zI _]) (cb := 10) dL_law_1344 moX9_seen mvX9_seen mlL_189 (by decide) rfl hM1.1 rfl (Nat.le_of_ble_eq_true rfl) ⟨Nat.le_of_ble_eq_true rfl, Nat.le_of_ble_eq_true rfl, by show k + 2 ≤ 603072; omega, by show n + 12 ≤ 7207018; omega⟩ hc2 (fun E h2 q => by rcases q.2 with ⟨-, z, -⟩ | ⟨-, z, -⟩ <;> cases z) (fun v9 h2 q => ?_)
  obtain ⟨t9, q2⟩ := q
  have hkn : 0 ≤ kk := by rcases qc with z | z <;> omega
  rcases q2 with ⟨k0, e1, hM2⟩ | ⟨k0, e1, hM2⟩
  · cases e1
    obtain ⟨-, qw, qR⟩ := qc.resolve_right (fun z => by omega)
    have hk0 := hkk.symm.trans k0
    obtain ⟨p1, hk1⟩ := kz hk0 (by decide)
    have hI5 : I4 S (B + 2000) := I4_le (by omega) (hI4)
    refine e_istore dL_law_1347 (Nat.le_of_ble_eq_true rfl) rfl rfl ?_
    refine e_aload_n dL_law_1349 rfl rfl ?_
    refine e_callV (As := []) (cb := 10) dL_law_1350 moX9_thrown mvX9_thrown mlL_140 (by decide) rfl hM2.1.1 rfl (Nat.le_of_ble_eq_true rfl) ⟨Nat.le_of_ble_eq_true rfl, Nat.le_of_ble_eq_true rfl, by show k + 2 ≤ 603072; omega, by show n + 12 ≤ 7207018; omega⟩ (c_X9_thrown hl hM2.1) (fun E h9 q => by cases q.1) (fun v9 h9 q => ?_)
    obtain ⟨e1, e2⟩ := q
    cases e1
    rw [e2]
    clear e2 h9
    refine e_G (fun G2 => ?_)
    have z9 : zin kk := by rw [← t9]; exact G2.1 _ _
    rw [t9]
    refine e_iload dL_law_1353 rfl ?_
    refine e_icmp_eq (tgt := 1360) dL_law_1355 (by decide) z9 z9 (fun _ => ?_) (fun c => absurd rfl c)
    refine e_iload dL_law_1360 rfl ?_
    refine e_if_ne (tgt := 1377) dL_law_1362 (by decide) z9 (fun c => absurd k0 c) (fun _ => ?_)
    refine e_aload_n dL_law_1365 rfl rfl ?_
    refine e_iconst dL_law_1366 ?_
    refine e_lald dL_law_1367 ((hM2.2 6 (by decide)).1.trans q6.1) (by decide) (by rw [(hM2.2 6 (by decide)).2.1, q6.2]; decide) (((hM2.2 6 (by decide)).2.2.2.2.2.2.2.1 0).trans qw) ?_
    refine e_iload dL_law_1368 rfl ?_
    refine e_i2lw dL_law_1370 ?_
    refine e_lcmp_eq dL_law_1371 rfl ?_
    refine e_if_eq (tgt := 1377) dL_law_1372 (by decide) (by decide) (fun _ => ?_) (fun c => absurd rfl c)
    refine e_goto (tgt := 2542) dL_law_1377 (by decide) ?_
    refine e_mask [true, true, true, true, true, true, false, false, false] ?_
    refine e_wid (k + 10) (n + 11813) (by show k + 2 ≤ _; omega) (by show n + 12 ≤ _; omega) ?_
    exact K S h2 ⟨hM2.1, RC_99 hM2.2 qR, hI5, ⟨(hM2.2 6 (by decide)).1.trans q6.1, (hM2.2 6 (by decide)).2.1.trans q6.2⟩, ⟨((hM2.2 7 (by decide)).1.trans (qf 7 (by decide)).1).trans h7.1, ((hM2.2 7 (by decide)).2.1.trans (qf 7 (by decide)).2.1).trans h7.2⟩, by omega⟩
  · cases e1
    have qR := (qc.resolve_left (fun z => by omega)).2
    have hI5 : I4 S (B + 2000) := I4_le (by omega) hI4
    refine e_istore dL_law_1347 (Nat.le_of_ble_eq_true rfl) rfl rfl ?_
    refine e_aload_n dL_law_1349 rfl rfl ?_
    refine e_callV (As := []) (cb := 10) dL_law_1350 moX9_thrown mvX9_thrown mlL_140 (by decide) rfl hM2.1.1 rfl (Nat.le_of_ble_eq_true rfl) ⟨Nat.le_of_ble_eq_true rfl, Nat.le_of_ble_eq_true rfl, by show k + 2 ≤ 603072; omega, by show n + 12 ≤ 7207018; omega⟩ (c_X9_thrown hl hM2.1) (fun E h9 q => by cases q.1) (fun v9 h9 q => ?_)
    obtain ⟨e1, e2⟩ := q
    cases e1
    rw [e2]
    clear e2 h9
    refine e_G (fun G2 => ?_)
    have z9 : zin kk := by rw [← t9]; exact G2.1 _ _
    rw [t9]
    refine e_iload dL_law_1353 rfl ?_
    refine e_icmp_eq (tgt := 1360) dL_law_1355 (by decide) z9 z9 (fun _ => ?_) (fun c => absurd rfl c)
    refine e_iload dL_law_1360 rfl ?_
    refine e_if_ne (tgt := 1377) dL_law_1362 (by decide) z9 (fun _ => ?_) (fun c => absurd c k0)
    refine e_goto (tgt := 2542) dL_law_1377 (by decide) ?_
    refine e_mask [true, true, true, true, true, true, false, false, false] ?_
    refine e_wid (k + 10) (n + 11813) (by show k + 2 ≤ _; omega) (by show n + 12 ≤ _; omega) ?_
    exact K S h2 ⟨hM2.1, RC_99 hM2.2 qR, hI5, ⟨(hM2.2 6 (by decide)).1.trans q6.1, (hM2.2 6 (by decide)).2.1.trans q6.2⟩, ⟨((hM2.2 7 (by decide)).1.trans (qf 7 (by decide)).1).trans h7.1, ((hM2.2 7 (by decide)).2.1.trans (qf 7 (by decide)).2.1).trans h7.2⟩, by omega⟩
set_option maxHeartbeats 4000000 in
set_option maxRecDepth 100000 in
theorem cs_behind {l : Launch} (hl : l.stackTraces = false) (hG : GMore l) {L : Nat} {f : Nat → Int32} {S : S9} {h : zH} {B i : Int} {k n : Nat} (i0 : 0 ≤ i) (i8 : i + 8 ≤ L) (hk : k + 10 ≤ 603072) (hn : n + 11813 ≤ 7207018) (hB9 : B ≤ 800000000) (hL0 : LI S B h) (K : ∀ S' h', LI S' (B + 2000) h' → AW l (MLW L f) QW (k + 10) (n + 11813) 2542 [zY, zR (some 2), zR (some 99), zR (some 6), zR (some 7), zI i, zX, zX, zX] [] h') : AW l (MLW L f) QW k n 1380 [zY, zR (some 2), zR (some 99), zR (some 6), zR (some 7), zI i, zX, zX, zX] [] h := by
  obtain ⟨hM, hR, hI4, h6, h7, hB0⟩ := hL0
  refine e_G (fun G => ?_)
  have hI := II_of G hM hI4
  have hN : IN S := hI4.1.1
  have hIW : IW S := hI4.1.2.1
  have hIO : IO S := hI4.1.2.2.1
  have hIC : IC S := hI4.1.2.2.2.1
  have hIK : IK S := hI4.1.2.2.2.2
  obtain ⟨n1, n2, n3, n4, n5⟩ := id hN
  obtain ⟨c, hec⟩ : ∃ z : Int, z = (f (i + 1).toNat).toInt := ⟨_, rfl⟩
  have hcz : zin c := by rw [hec]; exact ⟨Int32.le_toInt _, Int32.toInt_lt _⟩
  obtain ⟨kk, hkk⟩ : ∃ kk : Int, kk = (if ¬ isC S c then 1 else 0) := ⟨_, rfl⟩
  have hc1 := c_L_behind hl hR hI h6 c hcz
  rw [← hkk] at hc1
  refine e_aload_n dL_law_1380 rfl rfl ?_
  refine e_aloadY dL_law_1381 rfl rfl ?_
  refine e_iload dL_law_1382 rfl ?_
  refine e_iconst dL_law_1384 ?_
  refine e_iadd dL_law_1385 ?_
  refine e_sld (L := L) (f := f) rfl dL_law_1386 (by omega) (by omega) (fun y9 => ?_)
  rw [← hec] at y9 ⊢
  refine e_aload_n dL_law_1387 rfl rfl ?_
  refine e_callH (As := [zR _, zI _, zR _]) dL_law_1388 hoL_behind mlL_190 rfl (Nat.le_of_ble_eq_true rfl) ⟨Nat.le_of_ble_eq_true rfl, Nat.le_of_ble_eq_true rfl, by show k + 1 ≤ 603072; omega, by show n + 6 ≤ 7207018; omega⟩ hc1 (fun E h1 q => (QL_inl q).elim) (fun v9 h1 q => ?_)
  obtain ⟨e1, qf, q6, qc⟩ := q
  cases e1
  refine e_istore dL_law_1391 (Nat.le_of_ble_eq_true rfl) rfl rfl ?_
  have hM1 := RM_fr (fun m m0 m1 => qf m (by omega)) hM
  have hc2 : zC l MX9_behind [zR (some 99), zI c] h1 (QM S h1 kk (zI 0) (zI (cntB S c)) S) := by
    rw [hkk]
    exact c_X9_behind hl hM1 hN hIW hIO hIC hIK c hcz
  refine e_aload_n dL_law_1393 rfl rfl ?_
  refine e_aloadY dL_law_1394 rfl rfl ?_
  refine e_iload dL_law_1395 rfl ?_
  refine e_iconst dL_law_1397 ?_
  refine e_iadd dL_law_1398 ?_
  refine e_sld (L := L) (f := f) rfl dL_law_1399 (by omega) (by omega) (fun y9 => ?_)
  rw [← hec] at y9 ⊢
  refine e_callV (As := [zI _]) (cb := 10) dL_law_1400 moX9_behind mvX9_behind mlL_192 (by decide) rfl hM1.1 rfl (Nat.le_of_ble_eq_true rfl) ⟨Nat.le_of_ble_eq_true rfl, Nat.le_of_ble_eq_true rfl, by show k + 1 ≤ 603072; omega, by show n + 6 ≤ 7207018; omega⟩ hc2 (fun E h2 q => by rcases q.2 with ⟨-, z, -⟩ | ⟨-, z, -⟩ <;> cases z) (fun v9 h2 q => ?_)
  obtain ⟨t9, q2⟩ := q
  have hkn : 0 ≤ kk := by rcases qc with z | z <;> omega
  rcases q2 with ⟨k0, e1, hM2⟩ | ⟨k0, e1, hM2⟩
  · cases e1
    obtain ⟨-, qw, qR⟩ := qc.resolve_right (fun z => by omega)
    have hk0 := hkk.symm.trans k0
    obtain ⟨p1, hk1⟩ := kz hk0 (by decide)
    have hI5 : I4 S (B + 2000) := I4_le (by omega) (hI4)
    refine e_istore dL_law_1403 (Nat.le_of_ble_eq_true rfl) rfl rfl ?_
    refine e_aload_n dL_law_1405 rfl rfl ?_
    refine e_callV (As := []) (cb := 10) dL_law_1406 moX9_thrown mvX9_thrown mlL_140 (by decide) rfl hM2.1.1 rfl (Nat.le_of_ble_eq_true rfl) ⟨Nat.le_of_ble_eq_true rfl, Nat.le_of_ble_eq_true rfl, by show k + 1 ≤ 603072; omega, by show n + 6 ≤ 7207018; omega⟩ (c_X9_thrown hl hM2.1) (fun E h9 q => by cases q.1) (fun v9 h9 q => ?_)
    obtain ⟨e1, e2⟩ := q
    cases e1
    rw [e2]
    clear e2 h9
    refine e_G (fun G2 => ?_)
    have z9 : zin kk := by rw [← t9]; exact G2.1 _ _
    rw [t9]
    refine e_iload dL_law_1409 rfl ?_
    refine e_icmp_eq (tgt := 1416) dL_law_1411 (by decide) z9 z9 (fun _ => ?_) (fun c => absurd rfl c)
    refine e_iload dL_law_1416 rfl ?_
    refine e_if_ne (tgt := 1433) dL_law_1418 (by decide) z9 (fun c => absurd k0 c) (fun _ => ?_)
    refine e_aload_n dL_law_1421 rfl rfl ?_
    refine e_iconst dL_law_1422 ?_
    refine e_lald dL_law_1423 ((hM2.2 6 (by decide)).1.trans q6.1) (by decide) (by rw [(hM2.2 6 (by decide)).2.1, q6.2]; decide) (((hM2.2 6 (by decide)).2.2.2.2.2.2.2.1 0).trans qw) ?_
    refine e_iload dL_law_1424 rfl ?_
    refine e_i2lw dL_law_1426 ?_
    refine e_lcmp_eq dL_law_1427 rfl ?_
    refine e_if_eq (tgt := 1433) dL_law_1428 (by decide) (by decide) (fun _ => ?_) (fun c => absurd rfl c)
    refine e_goto (tgt := 2542) dL_law_1433 (by decide) ?_
    refine e_mask [true, true, true, true, true, true, false, false, false] ?_
    refine e_wid (k + 10) (n + 11813) (by show k + 1 ≤ _; omega) (by show n + 6 ≤ _; omega) ?_
    exact K S h2 ⟨hM2.1, RC_99 hM2.2 qR, hI5, ⟨(hM2.2 6 (by decide)).1.trans q6.1, (hM2.2 6 (by decide)).2.1.trans q6.2⟩, ⟨((hM2.2 7 (by decide)).1.trans (qf 7 (by decide)).1).trans h7.1, ((hM2.2 7 (by decide)).2.1.trans (qf 7 (by decide)).2.1).trans h7.2⟩, by omega⟩
  · cases e1
    have qR := (qc.resolve_left (fun z => by omega)).2
    have hI5 : I4 S (B + 2000) := I4_le (by omega) hI4
    refine e_istore dL_law_1403 (Nat.le_of_ble_eq_true rfl) rfl rfl ?_
    refine e_aload_n dL_law_1405 rfl rfl ?_
    refine e_callV (As := []) (cb := 10) dL_law_1406 moX9_thrown mvX9_thrown mlL_140 (by decide) rfl hM2.1.1 rfl (Nat.le_of_ble_eq_true rfl) ⟨Nat.le_of_ble_eq_true rfl, Nat.le_of_ble_eq_true rfl, by show k + 1 ≤ 603072; omega, by show n + 6 ≤ 7207018; omega⟩ (c_X9_thrown hl hM2.1) (fun E h9 q => by cases q.1) (fun v9 h9 q => ?_)
    obtain ⟨e1, e2⟩ := q
    cases e1
    rw [e2]
    clear e2 h9
    refine e_G (fun G2 => ?_)
    have z9 : zin kk := by rw [← t9]; exact G2.1 _ _
    rw [t9]
    refine e_iload dL_law_1409 rfl ?_
    refine e_icmp_eq (tgt := 1416) dL_law_1411 (by decide) z9 z9 (fun _ => ?_) (fun c => absurd rfl c)
    refine e_iload dL_law_1416 rfl ?_
    refine e_if_ne (tgt := 1433) dL_law_1418 (by decide) z9 (fun _ => ?_) (fun c => absurd c k0)
    refine e_goto (tgt := 2542) dL_law_1433 (by decide) ?_
    refine e_mask [true, true, true, true, true, true, false, false, false] ?_
    refine e_wid (k + 10) (n + 11813) (by show k + 1 ≤ _; omega) (by show n + 6 ≤ _; omega) ?_
    exact K S h2 ⟨hM2.1, RC_99 hM2.2 qR, hI5, ⟨(hM2.2 6 (by decide)).1.trans q6.1, (hM2.2 6 (by decide)).2.1.trans q6.2⟩, ⟨((hM2.2 7 (by decide)).1.trans (qf 7 (by decide)).1).trans h7.1, ((hM2.2 7 (by decide)).2.1.trans (qf 7 (by decide)).2.1).trans h7.2⟩, by omega⟩
set_option maxHeartbeats 4000000 in
set_option maxRecDepth 100000 in
theorem cs_next {l : Launch} (hl : l.stackTraces = false) (hG : GMore l) {L : Nat} {f : Nat → Int32} {S : S9} {h : zH} {B i : Int} {k n : Nat} (i0 : 0 ≤ i) (i8 : i + 8 ≤ L) (hk : k + 10 ≤ 603072) (hn : n + 11813 ≤ 7207018) (hB9 : B ≤ 800000000) (hL0 : LI S B h) (K : ∀ S' h', LI S' (B + 2000) h' → AW l (MLW L f) QW (k + 10) (n + 11813) 2542 [zY, zR (some 2), zR (some 99), zR (some 6), zR (some 7), zI i, zX, zX, zX] [] h') : AW l (MLW L f) QW k n 1436 [zY, zR (some 2), zR (some 99), zR (some 6), zR (some 7), zI i, zX, zX, zX] [] h := by
  obtain ⟨hM, hR, hI4, h6, h7, hB0⟩ := hL0
  refine e_G (fun G => ?_)
  have hI := II_of G hM hI4
  have hN : IN S := hI4.1.1
  have hIW : IW S := hI4.1.2.1
  have hIO : IO S := hI4.1.2.2.1
  have hIC : IC S := hI4.1.2.2.2.1
  have hIK : IK S := hI4.1.2.2.2.2
  obtain ⟨n1, n2, n3, n4, n5⟩ := id hN
  obtain ⟨c, hec⟩ : ∃ z : Int, z = (f (i + 1).toNat).toInt := ⟨_, rfl⟩
  have hcz : zin c := by rw [hec]; exact ⟨Int32.le_toInt _, Int32.toInt_lt _⟩
  obtain ⟨kk, hkk⟩ : ∃ kk : Int, kk = (if ¬ isC S c then 1 else if ¬ hasN S c then 2 else 0) := ⟨_, rfl⟩
  have hc1 := c_L_next hl hR hI h6 c hcz
  rw [← hkk] at hc1
  refine e_aload_n dL_law_1436 rfl rfl ?_
  refine e_aloadY dL_law_1437 rfl rfl ?_
  refine e_iload dL_law_1438 rfl ?_
  refine e_iconst dL_law_1440 ?_
  refine e_iadd dL_law_1441 ?_
  refine e_sld (L := L) (f := f) rfl dL_law_1442 (by omega) (by omega) (fun y9 => ?_)
  rw [← hec] at y9 ⊢
  refine e_aload_n dL_law_1443 rfl rfl ?_
  refine e_callH (As := [zR _, zI _, zR _]) dL_law_1444 hoL_next mlL_193 rfl (Nat.le_of_ble_eq_true rfl) ⟨Nat.le_of_ble_eq_true rfl, Nat.le_of_ble_eq_true rfl, by show k + 2 ≤ 603072; omega, by show n + 12 ≤ 7207018; omega⟩ hc1 (fun E h1 q => (QL_inl q).elim) (fun v9 h1 q => ?_)
  obtain ⟨e1, qf, q6, qc⟩ := q
  cases e1
  refine e_istore dL_law_1447 (Nat.le_of_ble_eq_true rfl) rfl rfl ?_
  have hM1 := RM_fr (fun m m0 m1 => qf m (by omega)) hM
  have hc2 : zC l MX9_next [zR (some 99), zI c] h1 (QM S h1 kk (zI 0) (zI (bstC S c).1) S) := by
    rw [hkk]
    exact c_X9_next hl hM1 hN hIW hIO hIC hIK c hcz
  refine e_aload_n dL_law_1449 rfl rfl ?_
  refine e_aloadY dL_law_1450 rfl rfl ?_
  refine e_iload dL_law_1451 rfl ?_
  refine e_iconst dL_law_1453 ?_
  refine e_iadd dL_law_1454 ?_
  refine e_sld (L := L) (f := f) rfl dL_law_1455 (by omega) (by omega) (fun y9 => ?_)
  rw [← hec] at y9 ⊢
  refine e_callV (As := [zI _]) (cb := 10) dL_law_1456 moX9_next mvX9_next mlL_195 (by decide) rfl hM1.1 rfl (Nat.le_of_ble_eq_true rfl) ⟨Nat.le_of_ble_eq_true rfl, Nat.le_of_ble_eq_true rfl, by show k + 2 ≤ 603072; omega, by show n + 12 ≤ 7207018; omega⟩ hc2 (fun E h2 q => by rcases q.2 with ⟨-, z, -⟩ | ⟨-, z, -⟩ <;> cases z) (fun v9 h2 q => ?_)
  obtain ⟨t9, q2⟩ := q
  have hkn : 0 ≤ kk := by rcases qc with z | z <;> omega
  rcases q2 with ⟨k0, e1, hM2⟩ | ⟨k0, e1, hM2⟩
  · cases e1
    obtain ⟨-, qw, qR⟩ := qc.resolve_right (fun z => by omega)
    have hk0 := hkk.symm.trans k0
    obtain ⟨p1, hk1⟩ := kz hk0 (by decide)
    obtain ⟨p2, hk2⟩ := kz hk1 (by decide)
    have hI5 : I4 S (B + 2000) := I4_le (by omega) (hI4)
    refine e_istore dL_law_1459 (Nat.le_of_ble_eq_true rfl) rfl rfl ?_
    refine e_aload_n dL_law_1461 rfl rfl ?_
    refine e_callV (As := []) (cb := 10) dL_law_1462 moX9_thrown mvX9_thrown mlL_140 (by decide) rfl hM2.1.1 rfl (Nat.le_of_ble_eq_true rfl) ⟨Nat.le_of_ble_eq_true rfl, Nat.le_of_ble_eq_true rfl, by show k + 2 ≤ 603072; omega, by show n + 12 ≤ 7207018; omega⟩ (c_X9_thrown hl hM2.1) (fun E h9 q => by cases q.1) (fun v9 h9 q => ?_)
    obtain ⟨e1, e2⟩ := q
    cases e1
    rw [e2]
    clear e2 h9
    refine e_G (fun G2 => ?_)
    have z9 : zin kk := by rw [← t9]; exact G2.1 _ _
    rw [t9]
    refine e_iload dL_law_1465 rfl ?_
    refine e_icmp_eq (tgt := 1472) dL_law_1467 (by decide) z9 z9 (fun _ => ?_) (fun c => absurd rfl c)
    refine e_iload dL_law_1472 rfl ?_
    refine e_if_ne (tgt := 1489) dL_law_1474 (by decide) z9 (fun c => absurd k0 c) (fun _ => ?_)
    refine e_aload_n dL_law_1477 rfl rfl ?_
    refine e_iconst dL_law_1478 ?_
    refine e_lald dL_law_1479 ((hM2.2 6 (by decide)).1.trans q6.1) (by decide) (by rw [(hM2.2 6 (by decide)).2.1, q6.2]; decide) (((hM2.2 6 (by decide)).2.2.2.2.2.2.2.1 0).trans qw) ?_
    refine e_iload dL_law_1480 rfl ?_
    refine e_i2lw dL_law_1482 ?_
    refine e_lcmp_eq dL_law_1483 rfl ?_
    refine e_if_eq (tgt := 1489) dL_law_1484 (by decide) (by decide) (fun _ => ?_) (fun c => absurd rfl c)
    refine e_goto (tgt := 2542) dL_law_1489 (by decide) ?_
    refine e_mask [true, true, true, true, true, true, false, false, false] ?_
    refine e_wid (k + 10) (n + 11813) (by show k + 2 ≤ _; omega) (by show n + 12 ≤ _; omega) ?_
    exact K S h2 ⟨hM2.1, RC_99 hM2.2 qR, hI5, ⟨(hM2.2 6 (by decide)).1.trans q6.1, (hM2.2 6 (by decide)).2.1.trans q6.2⟩, ⟨((hM2.2 7 (by decide)).1.trans (qf 7 (by decide)).1).trans h7.1, ((hM2.2 7 (by decide)).2.1.trans (qf 7 (by decide)).2.1).trans h7.2⟩, by omega⟩
  · cases e1
    have qR := (qc.resolve_left (fun z => by omega)).2
    have hI5 : I4 S (B + 2000) := I4_le (by omega) hI4
    refine e_istore dL_law_1459 (Nat.le_of_ble_eq_true rfl) rfl rfl ?_
    refine e_aload_n dL_law_1461 rfl rfl ?_
    refine e_callV (As := []) (cb := 10) dL_law_1462 moX9_thrown mvX9_thrown mlL_140 (by decide) rfl hM2.1.1 rfl (Nat.le_of_ble_eq_true rfl) ⟨Nat.le_of_ble_eq_true rfl, Nat.le_of_ble_eq_true rfl, by show k + 2 ≤ 603072; omega, by show n + 12 ≤ 7207018; omega⟩ (c_X9_thrown hl hM2.1) (fun E h9 q => by cases q.1) (fun v9 h9 q => ?_)
    obtain ⟨e1, e2⟩ := q
    cases e1
    rw [e2]
    clear e2 h9
    refine e_G (fun G2 => ?_)
    have z9 : zin kk := by rw [← t9]; exact G2.1 _ _
    rw [t9]
    refine e_iload dL_law_1465 rfl ?_
    refine e_icmp_eq (tgt := 1472) dL_law_1467 (by decide) z9 z9 (fun _ => ?_) (fun c => absurd rfl c)
    refine e_iload dL_law_1472 rfl ?_
    refine e_if_ne (tgt := 1489) dL_law_1474 (by decide) z9 (fun _ => ?_) (fun c => absurd c k0)
    refine e_goto (tgt := 2542) dL_law_1489 (by decide) ?_
    refine e_mask [true, true, true, true, true, true, false, false, false] ?_
    refine e_wid (k + 10) (n + 11813) (by show k + 2 ≤ _; omega) (by show n + 12 ≤ _; omega) ?_
    exact K S h2 ⟨hM2.1, RC_99 hM2.2 qR, hI5, ⟨(hM2.2 6 (by decide)).1.trans q6.1, (hM2.2 6 (by decide)).2.1.trans q6.2⟩, ⟨((hM2.2 7 (by decide)).1.trans (qf 7 (by decide)).1).trans h7.1, ((hM2.2 7 (by decide)).2.1.trans (qf 7 (by decide)).2.1).trans h7.2⟩, by omega⟩
set_option maxHeartbeats 4000000 in
set_option maxRecDepth 100000 in
theorem cs_nextCost {l : Launch} (hl : l.stackTraces = false) (hG : GMore l) {L : Nat} {f : Nat → Int32} {S : S9} {h : zH} {B i : Int} {k n : Nat} (i0 : 0 ≤ i) (i8 : i + 8 ≤ L) (hk : k + 10 ≤ 603072) (hn : n + 11813 ≤ 7207018) (hB9 : B ≤ 800000000) (hL0 : LI S B h) (K : ∀ S' h', LI S' (B + 2000) h' → AW l (MLW L f) QW (k + 10) (n + 11813) 2542 [zY, zR (some 2), zR (some 99), zR (some 6), zR (some 7), zI i, zX, zX, zX] [] h') : AW l (MLW L f) QW k n 1492 [zY, zR (some 2), zR (some 99), zR (some 6), zR (some 7), zI i, zX, zX, zX] [] h := by
  obtain ⟨hM, hR, hI4, h6, h7, hB0⟩ := hL0
  refine e_G (fun G => ?_)
  have hI := II_of G hM hI4
  have hN : IN S := hI4.1.1
  have hIW : IW S := hI4.1.2.1
  have hIO : IO S := hI4.1.2.2.1
  have hIC : IC S := hI4.1.2.2.2.1
  have hIK : IK S := hI4.1.2.2.2.2
  obtain ⟨n1, n2, n3, n4, n5⟩ := id hN
  obtain ⟨c, hec⟩ : ∃ z : Int, z = (f (i + 1).toNat).toInt := ⟨_, rfl⟩
  have hcz : zin c := by rw [hec]; exact ⟨Int32.le_toInt _, Int32.toInt_lt _⟩
  obtain ⟨kk, hkk⟩ : ∃ kk : Int, kk = (if ¬ isC S c then 1 else if ¬ hasN S c then 2 else 0) := ⟨_, rfl⟩
  have hc1 := c_L_nextCost hl hR hI h6 c hcz
  rw [← hkk] at hc1
  refine e_aload_n dL_law_1492 rfl rfl ?_
  refine e_aloadY dL_law_1493 rfl rfl ?_
  refine e_iload dL_law_1494 rfl ?_
  refine e_iconst dL_law_1496 ?_
  refine e_iadd dL_law_1497 ?_
  refine e_sld (L := L) (f := f) rfl dL_law_1498 (by omega) (by omega) (fun y9 => ?_)
  rw [← hec] at y9 ⊢
  refine e_aload_n dL_law_1499 rfl rfl ?_
  refine e_callH (As := [zR _, zI _, zR _]) dL_law_1500 hoL_nextCost mlL_196 rfl (Nat.le_of_ble_eq_true rfl) ⟨Nat.le_of_ble_eq_true rfl, Nat.le_of_ble_eq_true rfl, by show k + 2 ≤ 603072; omega, by show n + 12 ≤ 7207018; omega⟩ hc1 (fun E h1 q => (QL_inl q).elim) (fun v9 h1 q => ?_)
  obtain ⟨e1, qf, q6, qc⟩ := q
  cases e1
  refine e_istore dL_law_1503 (Nat.le_of_ble_eq_true rfl) rfl rfl ?_
  have hM1 := RM_fr (fun m m0 m1 => qf m (by omega)) hM
  have hc2 : zC l MX9_nextCost [zR (some 99), zI c] h1 (QM S h1 kk (zI 0) (zI (bstC S c).2.1) S) := by
    rw [hkk]
    exact c_X9_nextCost hl hM1 hN hIW hIO hIC hIK c hcz
  refine e_aload_n dL_law_1505 rfl rfl ?_
  refine e_aloadY dL_law_1506 rfl rfl ?_
  refine e_iload dL_law_1507 rfl ?_
  refine e_iconst dL_law_1509 ?_
  refine e_iadd dL_law_1510 ?_
  refine e_sld (L := L) (f := f) rfl dL_law_1511 (by omega) (by omega) (fun y9 => ?_)
  rw [← hec] at y9 ⊢
  refine e_callV (As := [zI _]) (cb := 10) dL_law_1512 moX9_nextCost mvX9_nextCost mlL_198 (by decide) rfl hM1.1 rfl (Nat.le_of_ble_eq_true rfl) ⟨Nat.le_of_ble_eq_true rfl, Nat.le_of_ble_eq_true rfl, by show k + 2 ≤ 603072; omega, by show n + 12 ≤ 7207018; omega⟩ hc2 (fun E h2 q => by rcases q.2 with ⟨-, z, -⟩ | ⟨-, z, -⟩ <;> cases z) (fun v9 h2 q => ?_)
  obtain ⟨t9, q2⟩ := q
  have hkn : 0 ≤ kk := by rcases qc with z | z <;> omega
  rcases q2 with ⟨k0, e1, hM2⟩ | ⟨k0, e1, hM2⟩
  · cases e1
    obtain ⟨-, qw, qR⟩ := qc.resolve_right (fun z => by omega)
    have hk0 := hkk.symm.trans k0
    obtain ⟨p1, hk1⟩ := kz hk0 (by decide)
    obtain ⟨p2, hk2⟩ := kz hk1 (by decide)
    have hI5 : I4 S (B + 2000) := I4_le (by omega) (hI4)
    refine e_istore dL_law_1515 (Nat.le_of_ble_eq_true rfl) rfl rfl ?_
    refine e_aload_n dL_law_1517 rfl rfl ?_
    refine e_callV (As := []) (cb := 10) dL_law_1518 moX9_thrown mvX9_thrown mlL_140 (by decide) rfl hM2.1.1 rfl (Nat.le_of_ble_eq_true rfl) ⟨Nat.le_of_ble_eq_true rfl, Nat.le_of_ble_eq_true rfl, by show k + 2 ≤ 603072; omega, by show n + 12 ≤ 7207018; omega⟩ (c_X9_thrown hl hM2.1) (fun E h9 q => by cases q.1) (fun v9 h9 q => ?_)
    obtain ⟨e1, e2⟩ := q
    cases e1
    rw [e2]
    clear e2 h9
    refine e_G (fun G2 => ?_)
    have z9 : zin kk := by rw [← t9]; exact G2.1 _ _
    rw [t9]
    refine e_iload dL_law_1521 rfl ?_
    refine e_icmp_eq (tgt := 1528) dL_law_1523 (by decide) z9 z9 (fun _ => ?_) (fun c => absurd rfl c)
    refine e_iload dL_law_1528 rfl ?_
    refine e_if_ne (tgt := 1545) dL_law_1530 (by decide) z9 (fun c => absurd k0 c) (fun _ => ?_)
    refine e_aload_n dL_law_1533 rfl rfl ?_
    refine e_iconst dL_law_1534 ?_
    refine e_lald dL_law_1535 ((hM2.2 6 (by decide)).1.trans q6.1) (by decide) (by rw [(hM2.2 6 (by decide)).2.1, q6.2]; decide) (((hM2.2 6 (by decide)).2.2.2.2.2.2.2.1 0).trans qw) ?_
    refine e_iload dL_law_1536 rfl ?_
    refine e_i2lw dL_law_1538 ?_
    refine e_lcmp_eq dL_law_1539 rfl ?_
    refine e_if_eq (tgt := 1545) dL_law_1540 (by decide) (by decide) (fun _ => ?_) (fun c => absurd rfl c)
    refine e_goto (tgt := 2542) dL_law_1545 (by decide) ?_
    refine e_mask [true, true, true, true, true, true, false, false, false] ?_
    refine e_wid (k + 10) (n + 11813) (by show k + 2 ≤ _; omega) (by show n + 12 ≤ _; omega) ?_
    exact K S h2 ⟨hM2.1, RC_99 hM2.2 qR, hI5, ⟨(hM2.2 6 (by decide)).1.trans q6.1, (hM2.2 6 (by decide)).2.1.trans q6.2⟩, ⟨((hM2.2 7 (by decide)).1.trans (qf 7 (by decide)).1).trans h7.1, ((hM2.2 7 (by decide)).2.1.trans (qf 7 (by decide)).2.1).trans h7.2⟩, by omega⟩
  · cases e1
    have qR := (qc.resolve_left (fun z => by omega)).2
    have hI5 : I4 S (B + 2000) := I4_le (by omega) hI4
    refine e_istore dL_law_1515 (Nat.le_of_ble_eq_true rfl) rfl rfl ?_
    refine e_aload_n dL_law_1517 rfl rfl ?_
    refine e_callV (As := []) (cb := 10) dL_law_1518 moX9_thrown mvX9_thrown mlL_140 (by decide) rfl hM2.1.1 rfl (Nat.le_of_ble_eq_true rfl) ⟨Nat.le_of_ble_eq_true rfl, Nat.le_of_ble_eq_true rfl, by show k + 2 ≤ 603072; omega, by show n + 12 ≤ 7207018; omega⟩ (c_X9_thrown hl hM2.1) (fun E h9 q => by cases q.1) (fun v9 h9 q => ?_)
    obtain ⟨e1, e2⟩ := q
    cases e1
    rw [e2]
    clear e2 h9
    refine e_G (fun G2 => ?_)
    have z9 : zin kk := by rw [← t9]; exact G2.1 _ _
    rw [t9]
    refine e_iload dL_law_1521 rfl ?_
    refine e_icmp_eq (tgt := 1528) dL_law_1523 (by decide) z9 z9 (fun _ => ?_) (fun c => absurd rfl c)
    refine e_iload dL_law_1528 rfl ?_
    refine e_if_ne (tgt := 1545) dL_law_1530 (by decide) z9 (fun _ => ?_) (fun c => absurd c k0)
    refine e_goto (tgt := 2542) dL_law_1545 (by decide) ?_
    refine e_mask [true, true, true, true, true, true, false, false, false] ?_
    refine e_wid (k + 10) (n + 11813) (by show k + 2 ≤ _; omega) (by show n + 12 ≤ _; omega) ?_
    exact K S h2 ⟨hM2.1, RC_99 hM2.2 qR, hI5, ⟨(hM2.2 6 (by decide)).1.trans q6.1, (hM2.2 6 (by decide)).2.1.trans q6.2⟩, ⟨((hM2.2 7 (by decide)).1.trans (qf 7 (by decide)).1).trans h7.1, ((hM2.2 7 (by decide)).2.1.trans (qf 7 (by decide)).2.1).trans h7.2⟩, by omega⟩
set_option maxHeartbeats 4000000 in
set_option maxRecDepth 100000 in
theorem cs_tick {l : Launch} (hl : l.stackTraces = false) (hG : GMore l) {L : Nat} {f : Nat → Int32} {S : S9} {h : zH} {B i : Int} {k n : Nat} (i0 : 0 ≤ i) (i8 : i + 8 ≤ L) (hk : k + 10 ≤ 603072) (hn : n + 11813 ≤ 7207018) (hB9 : B ≤ 800000000) (hL0 : LI S B h) (K : ∀ S' h', LI S' (B + 2000) h' → AW l (MLW L f) QW (k + 10) (n + 11813) 2542 [zY, zR (some 2), zR (some 99), zR (some 6), zR (some 7), zI i, zX, zX, zX] [] h') : AW l (MLW L f) QW k n 1548 [zY, zR (some 2), zR (some 99), zR (some 6), zR (some 7), zI i, zX, zX, zX] [] h := by
  obtain ⟨hM, hR, hI4, h6, h7, hB0⟩ := hL0
  refine e_G (fun G => ?_)
  have hI := II_of G hM hI4
  have hN : IN S := hI4.1.1
  have hIW : IW S := hI4.1.2.1
  have hIO : IO S := hI4.1.2.2.1
  have hIC : IC S := hI4.1.2.2.2.1
  have hIK : IK S := hI4.1.2.2.2.2
  obtain ⟨n1, n2, n3, n4, n5⟩ := id hN
  obtain ⟨t, het⟩ : ∃ z : Int, z = (f (i + 1).toNat).toInt := ⟨_, rfl⟩
  have htz : zin t := by rw [het]; exact ⟨Int32.le_toInt _, Int32.toInt_lt _⟩
  obtain ⟨kk, hkk⟩ : ∃ kk : Int, kk = (if ¬ (1 ≤ t ∧ t ≤ 20) then 1 else 0) := ⟨_, rfl⟩
  have hc1 := c_L_tick hl hR hI h6 t htz ⟨hB0, hB9⟩
  rw [← hkk] at hc1
  refine e_aload_n dL_law_1548 rfl rfl ?_
  refine e_aloadY dL_law_1549 rfl rfl ?_
  refine e_iload dL_law_1550 rfl ?_
  refine e_iconst dL_law_1552 ?_
  refine e_iadd dL_law_1553 ?_
  refine e_sld (L := L) (f := f) rfl dL_law_1554 (by omega) (by omega) (fun y9 => ?_)
  rw [← het] at y9 ⊢
  refine e_aload_n dL_law_1555 rfl rfl ?_
  refine e_callH (As := [zR _, zI _, zR _]) dL_law_1556 hoL_tick mlL_199 rfl (Nat.le_of_ble_eq_true rfl) ⟨Nat.le_of_ble_eq_true rfl, Nat.le_of_ble_eq_true rfl, by show k + 1 ≤ 603072; omega, by show n + 6 ≤ 7207018; omega⟩ hc1 (fun E h1 q => (QL_inl q).elim) (fun v9 h1 q => ?_)
  obtain ⟨e1, qf, q6, qc⟩ := q
  cases e1
  refine e_istore dL_law_1559 (Nat.le_of_ble_eq_true rfl) rfl rfl ?_
  have hM1 := RM_fr (fun m m0 m1 => qf m (by omega)) hM
  have hc2 : zC l MX9_tick [zR (some 99), zI t] h1 (QM S h1 kk (zI 0) (zI (tikV S t.toNat)) (tikS S t)) := by
    rw [hkk]
    exact c_X9_tick hl hM1 hI4.1 t B htz hI4.2.2.1 (by omega)
  refine e_aload_n dL_law_1561 rfl rfl ?_
  refine e_aloadY dL_law_1562 rfl rfl ?_
  refine e_iload dL_law_1563 rfl ?_
  refine e_iconst dL_law_1565 ?_
  refine e_iadd dL_law_1566 ?_
  refine e_sld (L := L) (f := f) rfl dL_law_1567 (by omega) (by omega) (fun y9 => ?_)
  rw [← het] at y9 ⊢
  refine e_callV (As := [zI _]) (cb := 10) dL_law_1568 moX9_tick mvX9_tick mlL_201 (by decide) rfl hM1.1 rfl (Nat.le_of_ble_eq_true rfl) ⟨Nat.le_of_ble_eq_true rfl, Nat.le_of_ble_eq_true rfl, by show k + 1 ≤ 603072; omega, by show n + 6 ≤ 7207018; omega⟩ hc2 (fun E h2 q => by rcases q.2 with ⟨-, z, -⟩ | ⟨-, z, -⟩ <;> cases z) (fun v9 h2 q => ?_)
  obtain ⟨t9, q2⟩ := q
  have hkn : 0 ≤ kk := by rcases qc with z | z <;> omega
  rcases q2 with ⟨k0, e1, hM2⟩ | ⟨k0, e1, hM2⟩
  · cases e1
    obtain ⟨-, qw, qR⟩ := qc.resolve_right (fun z => by omega)
    have hk0 := hkk.symm.trans k0
    obtain ⟨p1, hk1⟩ := kz hk0 (by decide)
    have hI5 : I4 (tikS S t) (B + 2000) := I4_tick hI4 (by omega)
    refine e_istore dL_law_1571 (Nat.le_of_ble_eq_true rfl) rfl rfl ?_
    refine e_aload_n dL_law_1573 rfl rfl ?_
    refine e_callV (As := []) (cb := 10) dL_law_1574 moX9_thrown mvX9_thrown mlL_140 (by decide) rfl hM2.1.1 rfl (Nat.le_of_ble_eq_true rfl) ⟨Nat.le_of_ble_eq_true rfl, Nat.le_of_ble_eq_true rfl, by show k + 1 ≤ 603072; omega, by show n + 6 ≤ 7207018; omega⟩ (c_X9_thrown hl hM2.1) (fun E h9 q => by cases q.1) (fun v9 h9 q => ?_)
    obtain ⟨e1, e2⟩ := q
    cases e1
    rw [e2]
    clear e2 h9
    refine e_G (fun G2 => ?_)
    have z9 : zin kk := by rw [← t9]; exact G2.1 _ _
    rw [t9]
    refine e_iload dL_law_1577 rfl ?_
    refine e_icmp_eq (tgt := 1584) dL_law_1579 (by decide) z9 z9 (fun _ => ?_) (fun c => absurd rfl c)
    refine e_iload dL_law_1584 rfl ?_
    refine e_if_ne (tgt := 1601) dL_law_1586 (by decide) z9 (fun c => absurd k0 c) (fun _ => ?_)
    refine e_aload_n dL_law_1589 rfl rfl ?_
    refine e_iconst dL_law_1590 ?_
    refine e_lald dL_law_1591 ((hM2.2 6 (by decide)).1.trans q6.1) (by decide) (by rw [(hM2.2 6 (by decide)).2.1, q6.2]; decide) (((hM2.2 6 (by decide)).2.2.2.2.2.2.2.1 0).trans qw) ?_
    refine e_iload dL_law_1592 rfl ?_
    refine e_i2lw dL_law_1594 ?_
    refine e_lcmp_eq dL_law_1595 rfl ?_
    refine e_if_eq (tgt := 1601) dL_law_1596 (by decide) (by decide) (fun _ => ?_) (fun c => absurd rfl c)
    refine e_goto (tgt := 2542) dL_law_1601 (by decide) ?_
    refine e_mask [true, true, true, true, true, true, false, false, false] ?_
    refine e_wid (k + 10) (n + 11813) (by show k + 1 ≤ _; omega) (by show n + 6 ≤ _; omega) ?_
    exact K (tikS S t) h2 ⟨hM2.1, RC_99 hM2.2 qR, hI5, ⟨(hM2.2 6 (by decide)).1.trans q6.1, (hM2.2 6 (by decide)).2.1.trans q6.2⟩, ⟨((hM2.2 7 (by decide)).1.trans (qf 7 (by decide)).1).trans h7.1, ((hM2.2 7 (by decide)).2.1.trans (qf 7 (by decide)).2.1).trans h7.2⟩, by omega⟩
  · cases e1
    have qR := (qc.resolve_left (fun z => by omega)).2
    have hI5 : I4 S (B + 2000) := I4_le (by omega) hI4
    refine e_istore dL_law_1571 (Nat.le_of_ble_eq_true rfl) rfl rfl ?_
    refine e_aload_n dL_law_1573 rfl rfl ?_
    refine e_callV (As := []) (cb := 10) dL_law_1574 moX9_thrown mvX9_thrown mlL_140 (by decide) rfl hM2.1.1 rfl (Nat.le_of_ble_eq_true rfl) ⟨Nat.le_of_ble_eq_true rfl, Nat.le_of_ble_eq_true rfl, by show k + 1 ≤ 603072; omega, by show n + 6 ≤ 7207018; omega⟩ (c_X9_thrown hl hM2.1) (fun E h9 q => by cases q.1) (fun v9 h9 q => ?_)
    obtain ⟨e1, e2⟩ := q
    cases e1
    rw [e2]
    clear e2 h9
    refine e_G (fun G2 => ?_)
    have z9 : zin kk := by rw [← t9]; exact G2.1 _ _
    rw [t9]
    refine e_iload dL_law_1577 rfl ?_
    refine e_icmp_eq (tgt := 1584) dL_law_1579 (by decide) z9 z9 (fun _ => ?_) (fun c => absurd rfl c)
    refine e_iload dL_law_1584 rfl ?_
    refine e_if_ne (tgt := 1601) dL_law_1586 (by decide) z9 (fun _ => ?_) (fun c => absurd c k0)
    refine e_goto (tgt := 2542) dL_law_1601 (by decide) ?_
    refine e_mask [true, true, true, true, true, true, false, false, false] ?_
    refine e_wid (k + 10) (n + 11813) (by show k + 1 ≤ _; omega) (by show n + 6 ≤ _; omega) ?_
    exact K S h2 ⟨hM2.1, RC_99 hM2.2 qR, hI5, ⟨(hM2.2 6 (by decide)).1.trans q6.1, (hM2.2 6 (by decide)).2.1.trans q6.2⟩, ⟨((hM2.2 7 (by decide)).1.trans (qf 7 (by decide)).1).trans h7.1, ((hM2.2 7 (by decide)).2.1.trans (qf 7 (by decide)).2.1).trans h7.2⟩, by omega⟩
set_option maxHeartbeats 4000000 in
set_option maxRecDepth 100000 in
theorem cs_type {l : Launch} (hl : l.stackTraces = false) (hG : GMore l) {L : Nat} {f : Nat → Int32} {S : S9} {h : zH} {B i : Int} {k n : Nat} (i0 : 0 ≤ i) (i8 : i + 8 ≤ L) (hk : k + 10 ≤ 603072) (hn : n + 11813 ≤ 7207018) (hB9 : B ≤ 800000000) (hL0 : LI S B h) (K : ∀ S' h', LI S' (B + 2000) h' → AW l (MLW L f) QW (k + 10) (n + 11813) 2542 [zY, zR (some 2), zR (some 99), zR (some 6), zR (some 7), zI i, zX, zX, zX] [] h') : AW l (MLW L f) QW k n 1618 [zY, zR (some 2), zR (some 99), zR (some 6), zR (some 7), zI i, zX, zX, zX] [] h := by
  obtain ⟨hM, hR, hI4, h6, h7, hB0⟩ := hL0
  refine e_G (fun G => ?_)
  have hI := II_of G hM hI4
  have hN : IN S := hI4.1.1
  have hIW : IW S := hI4.1.2.1
  have hIO : IO S := hI4.1.2.2.1
  have hIC : IC S := hI4.1.2.2.2.1
  have hIK : IK S := hI4.1.2.2.2.2
  obtain ⟨n1, n2, n3, n4, n5⟩ := id hN
  obtain ⟨c, hec⟩ : ∃ z : Int, z = (f (i + 1).toNat).toInt := ⟨_, rfl⟩
  have hcz : zin c := by rw [hec]; exact ⟨Int32.le_toInt _, Int32.toInt_lt _⟩
  obtain ⟨qt, hqt⟩ : ∃ z : Int, z = (f (i + 2).toNat).toInt := ⟨_, rfl⟩
  obtain ⟨t, het⟩ : ∃ z : Int, z = chI qt := ⟨_, rfl⟩
  have ht0 : 0 ≤ t ∧ t < 65536 := by rw [het]; exact chI_in
  obtain ⟨kk, hkk⟩ : ∃ kk : Int, kk = (if ¬ isC S c then 1 else if t < 97 ∨ 122 < t then 2 else if topOf S (S 35 c) < 0 then 3 else if S 17 (S 35 c) = 20 then 4 else 0) := ⟨_, rfl⟩
  have hc1 := c_L_type hl hR hI h6 hG c hcz t ht0
  rw [← hkk] at hc1
  refine e_aload_n dL_law_1618 rfl rfl ?_
  refine e_aloadY dL_law_1619 rfl rfl ?_
  refine e_iload dL_law_1620 rfl ?_
  refine e_iconst dL_law_1622 ?_
  refine e_iadd dL_law_1623 ?_
  refine e_sld (L := L) (f := f) rfl dL_law_1624 (by omega) (by omega) (fun y9 => ?_)
  rw [← hec] at y9 ⊢
  refine e_aloadY dL_law_1625 rfl rfl ?_
  refine e_iload dL_law_1626 rfl ?_
  refine e_iconst dL_law_1628 ?_
  refine e_iadd dL_law_1629 ?_
  refine e_sld (L := L) (f := f) rfl dL_law_1630 (by omega) (by omega) (fun y9 => ?_)
  rw [← hqt] at y9 ⊢
  refine e_i2c dL_law_1631 chI_eq ?_
  rw [← het]
  refine e_aload_n dL_law_1632 rfl rfl ?_
  refine e_callH (As := [zR _, zI _, zI _, zR _]) dL_law_1633 hoL_type mlL_207 rfl (Nat.le_of_ble_eq_true rfl) ⟨Nat.le_of_ble_eq_true rfl, Nat.le_of_ble_eq_true rfl, by show k + 6 ≤ 603072; omega, by show n + 68 ≤ 7207018; omega⟩ hc1 (fun E h1 q => (QL_inl q).elim) (fun v9 h1 q => ?_)
  obtain ⟨e1, qf, q6, qc⟩ := q
  cases e1
  refine e_istore dL_law_1636 (Nat.le_of_ble_eq_true rfl) rfl rfl ?_
  have hM1 := RM_fr (fun m m0 m1 => qf m (by omega)) hM
  have hc2 : zC l MX9_type [zR (some 99), zI c, zI t] h1 (QM S h1 kk (zI 0) (zI (S 17 (S 35 c) + 1)) (typS S c t)) := by
    rw [hkk]
    exact c_X9_type hl hM1 hN hIW hIO hIC hIK c t hcz ht0
  refine e_aload_n dL_law_1638 rfl rfl ?_
  refine e_aloadY dL_law_1639 rfl rfl ?_
  refine e_iload dL_law_1640 rfl ?_
  refine e_iconst dL_law_1642 ?_
  refine e_iadd dL_law_1643 ?_
  refine e_sld (L := L) (f := f) rfl dL_law_1644 (by omega) (by omega) (fun y9 => ?_)
  rw [← hec] at y9 ⊢
  refine e_aloadY dL_law_1645 rfl rfl ?_
  refine e_iload dL_law_1646 rfl ?_
  refine e_iconst dL_law_1648 ?_
  refine e_iadd dL_law_1649 ?_
  refine e_sld (L := L) (f := f) rfl dL_law_1650 (by omega) (by omega) (fun y9 => ?_)
  rw [← hqt] at y9 ⊢
  refine e_i2c dL_law_1651 chI_eq ?_
  rw [← het]
  refine e_callV (As := [zI _, zI _]) (cb := 10) dL_law_1652 moX9_type mvX9_type mlL_210 (by decide) rfl hM1.1 rfl (Nat.le_of_ble_eq_true rfl) ⟨Nat.le_of_ble_eq_true rfl, Nat.le_of_ble_eq_true rfl, by show k + 6 ≤ 603072; omega, by show n + 68 ≤ 7207018; omega⟩ hc2 (fun E h2 q => by rcases q.2 with ⟨-, z, -⟩ | ⟨-, z, -⟩ <;> cases z) (fun v9 h2 q => ?_)
  obtain ⟨t9, q2⟩ := q
  have hkn : 0 ≤ kk := by rcases qc with z | z <;> omega
  rcases q2 with ⟨k0, e1, hM2⟩ | ⟨k0, e1, hM2⟩
  · cases e1
    obtain ⟨-, qw, qR⟩ := qc.resolve_right (fun z => by omega)
    have hk0 := hkk.symm.trans k0
    obtain ⟨p1, hk1⟩ := kz hk0 (by decide)
    obtain ⟨p2, hk2⟩ := kz hk1 (by decide)
    obtain ⟨p3, hk3⟩ := kz hk2 (by decide)
    obtain ⟨p4, hk4⟩ := kz hk3 (by decide)
    have hI5 : I4 (typS S c t) (B + 2000) := I4_le (by omega) (I4_type hI4 (Classical.not_not.mp p1) (by omega) (by have hcs := hIC c (by omega) (by omega); have := n5 (S 35 c) (by omega) (by omega); omega))
    refine e_istore dL_law_1655 (Nat.le_of_ble_eq_true rfl) rfl rfl ?_
    refine e_aload_n dL_law_1657 rfl rfl ?_
    refine e_callV (As := []) (cb := 10) dL_law_1658 moX9_thrown mvX9_thrown mlL_140 (by decide) rfl hM2.1.1 rfl (Nat.le_of_ble_eq_true rfl) ⟨Nat.le_of_ble_eq_true rfl, Nat.le_of_ble_eq_true rfl, by show k + 6 ≤ 603072; omega, by show n + 68 ≤ 7207018; omega⟩ (c_X9_thrown hl hM2.1) (fun E h9 q => by cases q.1) (fun v9 h9 q => ?_)
    obtain ⟨e1, e2⟩ := q
    cases e1
    rw [e2]
    clear e2 h9
    refine e_G (fun G2 => ?_)
    have z9 : zin kk := by rw [← t9]; exact G2.1 _ _
    rw [t9]
    refine e_iload dL_law_1661 rfl ?_
    refine e_icmp_eq (tgt := 1668) dL_law_1663 (by decide) z9 z9 (fun _ => ?_) (fun c => absurd rfl c)
    refine e_iload dL_law_1668 rfl ?_
    refine e_if_ne (tgt := 1685) dL_law_1670 (by decide) z9 (fun c => absurd k0 c) (fun _ => ?_)
    refine e_aload_n dL_law_1673 rfl rfl ?_
    refine e_iconst dL_law_1674 ?_
    refine e_lald dL_law_1675 ((hM2.2 6 (by decide)).1.trans q6.1) (by decide) (by rw [(hM2.2 6 (by decide)).2.1, q6.2]; decide) (((hM2.2 6 (by decide)).2.2.2.2.2.2.2.1 0).trans qw) ?_
    refine e_iload dL_law_1676 rfl ?_
    refine e_i2lw dL_law_1678 ?_
    refine e_lcmp_eq dL_law_1679 rfl ?_
    refine e_if_eq (tgt := 1685) dL_law_1680 (by decide) (by decide) (fun _ => ?_) (fun c => absurd rfl c)
    refine e_goto (tgt := 2542) dL_law_1685 (by decide) ?_
    refine e_mask [true, true, true, true, true, true, false, false, false] ?_
    refine e_wid (k + 10) (n + 11813) (by show k + 6 ≤ _; omega) (by show n + 68 ≤ _; omega) ?_
    exact K (typS S c t) h2 ⟨hM2.1, RC_99 hM2.2 qR, hI5, ⟨(hM2.2 6 (by decide)).1.trans q6.1, (hM2.2 6 (by decide)).2.1.trans q6.2⟩, ⟨((hM2.2 7 (by decide)).1.trans (qf 7 (by decide)).1).trans h7.1, ((hM2.2 7 (by decide)).2.1.trans (qf 7 (by decide)).2.1).trans h7.2⟩, by omega⟩
  · cases e1
    have qR := (qc.resolve_left (fun z => by omega)).2
    have hI5 : I4 S (B + 2000) := I4_le (by omega) hI4
    refine e_istore dL_law_1655 (Nat.le_of_ble_eq_true rfl) rfl rfl ?_
    refine e_aload_n dL_law_1657 rfl rfl ?_
    refine e_callV (As := []) (cb := 10) dL_law_1658 moX9_thrown mvX9_thrown mlL_140 (by decide) rfl hM2.1.1 rfl (Nat.le_of_ble_eq_true rfl) ⟨Nat.le_of_ble_eq_true rfl, Nat.le_of_ble_eq_true rfl, by show k + 6 ≤ 603072; omega, by show n + 68 ≤ 7207018; omega⟩ (c_X9_thrown hl hM2.1) (fun E h9 q => by cases q.1) (fun v9 h9 q => ?_)
    obtain ⟨e1, e2⟩ := q
    cases e1
    rw [e2]
    clear e2 h9
    refine e_G (fun G2 => ?_)
    have z9 : zin kk := by rw [← t9]; exact G2.1 _ _
    rw [t9]
    refine e_iload dL_law_1661 rfl ?_
    refine e_icmp_eq (tgt := 1668) dL_law_1663 (by decide) z9 z9 (fun _ => ?_) (fun c => absurd rfl c)
    refine e_iload dL_law_1668 rfl ?_
    refine e_if_ne (tgt := 1685) dL_law_1670 (by decide) z9 (fun _ => ?_) (fun c => absurd c k0)
    refine e_goto (tgt := 2542) dL_law_1685 (by decide) ?_
    refine e_mask [true, true, true, true, true, true, false, false, false] ?_
    refine e_wid (k + 10) (n + 11813) (by show k + 6 ≤ _; omega) (by show n + 68 ≤ _; omega) ?_
    exact K S h2 ⟨hM2.1, RC_99 hM2.2 qR, hI5, ⟨(hM2.2 6 (by decide)).1.trans q6.1, (hM2.2 6 (by decide)).2.1.trans q6.2⟩, ⟨((hM2.2 7 (by decide)).1.trans (qf 7 (by decide)).1).trans h7.1, ((hM2.2 7 (by decide)).2.1.trans (qf 7 (by decide)).2.1).trans h7.2⟩, by omega⟩
set_option maxHeartbeats 4000000 in
set_option maxRecDepth 100000 in
theorem cs_guesses {l : Launch} (hl : l.stackTraces = false) (hG : GMore l) {L : Nat} {f : Nat → Int32} {S : S9} {h : zH} {B i : Int} {k n : Nat} (i0 : 0 ≤ i) (i8 : i + 8 ≤ L) (hk : k + 10 ≤ 603072) (hn : n + 11813 ≤ 7207018) (hB9 : B ≤ 800000000) (hL0 : LI S B h) (K : ∀ S' h', LI S' (B + 2000) h' → AW l (MLW L f) QW (k + 10) (n + 11813) 2542 [zY, zR (some 2), zR (some 99), zR (some 6), zR (some 7), zI i, zX, zX, zX] [] h') : AW l (MLW L f) QW k n 1688 [zY, zR (some 2), zR (some 99), zR (some 6), zR (some 7), zI i, zX, zX, zX] [] h := by
  obtain ⟨hM, hR, hI4, h6, h7, hB0⟩ := hL0
  refine e_G (fun G => ?_)
  have hI := II_of G hM hI4
  have hN : IN S := hI4.1.1
  have hIW : IW S := hI4.1.2.1
  have hIO : IO S := hI4.1.2.2.1
  have hIC : IC S := hI4.1.2.2.2.1
  have hIK : IK S := hI4.1.2.2.2.2
  obtain ⟨n1, n2, n3, n4, n5⟩ := id hN
  obtain ⟨c, hec⟩ : ∃ z : Int, z = (f (i + 1).toNat).toInt := ⟨_, rfl⟩
  have hcz : zin c := by rw [hec]; exact ⟨Int32.le_toInt _, Int32.toInt_lt _⟩
  obtain ⟨kk, hkk⟩ : ∃ kk : Int, kk = (if ¬ isC S c then 1 else 0) := ⟨_, rfl⟩
  have hc1 := c_L_guesses hl hR hI h6 c hcz
  rw [← hkk] at hc1
  refine e_aload_n dL_law_1688 rfl rfl ?_
  refine e_aloadY dL_law_1689 rfl rfl ?_
  refine e_iload dL_law_1690 rfl ?_
  refine e_iconst dL_law_1692 ?_
  refine e_iadd dL_law_1693 ?_
  refine e_sld (L := L) (f := f) rfl dL_law_1694 (by omega) (by omega) (fun y9 => ?_)
  rw [← hec] at y9 ⊢
  refine e_aload_n dL_law_1695 rfl rfl ?_
  refine e_callH (As := [zR _, zI _, zR _]) dL_law_1696 hoL_guesses mlL_211 rfl (Nat.le_of_ble_eq_true rfl) ⟨Nat.le_of_ble_eq_true rfl, Nat.le_of_ble_eq_true rfl, by show k + 1 ≤ 603072; omega, by show n + 6 ≤ 7207018; omega⟩ hc1 (fun E h1 q => (QL_inl q).elim) (fun v9 h1 q => ?_)
  obtain ⟨e1, qf, q6, qc⟩ := q
  cases e1
  refine e_istore dL_law_1699 (Nat.le_of_ble_eq_true rfl) rfl rfl ?_
  have hM1 := RM_fr (fun m m0 m1 => qf m (by omega)) hM
  have hc2 : zC l MX9_guesses [zR (some 99), zI c] h1 (QM S h1 kk (zI 0) (zI (gues S c)) S) := by
    rw [hkk]
    exact c_X9_guesses hl hM1 hN hIW hIO hIC hIK c hcz
  refine e_aload_n dL_law_1701 rfl rfl ?_
  refine e_aloadY dL_law_1702 rfl rfl ?_
  refine e_iload dL_law_1703 rfl ?_
  refine e_iconst dL_law_1705 ?_
  refine e_iadd dL_law_1706 ?_
  refine e_sld (L := L) (f := f) rfl dL_law_1707 (by omega) (by omega) (fun y9 => ?_)
  rw [← hec] at y9 ⊢
  refine e_callV (As := [zI _]) (cb := 10) dL_law_1708 moX9_guesses mvX9_guesses mlL_213 (by decide) rfl hM1.1 rfl (Nat.le_of_ble_eq_true rfl) ⟨Nat.le_of_ble_eq_true rfl, Nat.le_of_ble_eq_true rfl, by show k + 1 ≤ 603072; omega, by show n + 6 ≤ 7207018; omega⟩ hc2 (fun E h2 q => by rcases q.2 with ⟨-, z, -⟩ | ⟨-, z, -⟩ <;> cases z) (fun v9 h2 q => ?_)
  obtain ⟨t9, q2⟩ := q
  have hkn : 0 ≤ kk := by rcases qc with z | z <;> omega
  rcases q2 with ⟨k0, e1, hM2⟩ | ⟨k0, e1, hM2⟩
  · cases e1
    obtain ⟨-, qw, qR⟩ := qc.resolve_right (fun z => by omega)
    have hk0 := hkk.symm.trans k0
    obtain ⟨p1, hk1⟩ := kz hk0 (by decide)
    have hI5 : I4 S (B + 2000) := I4_le (by omega) (hI4)
    refine e_istore dL_law_1711 (Nat.le_of_ble_eq_true rfl) rfl rfl ?_
    refine e_aload_n dL_law_1713 rfl rfl ?_
    refine e_callV (As := []) (cb := 10) dL_law_1714 moX9_thrown mvX9_thrown mlL_140 (by decide) rfl hM2.1.1 rfl (Nat.le_of_ble_eq_true rfl) ⟨Nat.le_of_ble_eq_true rfl, Nat.le_of_ble_eq_true rfl, by show k + 1 ≤ 603072; omega, by show n + 6 ≤ 7207018; omega⟩ (c_X9_thrown hl hM2.1) (fun E h9 q => by cases q.1) (fun v9 h9 q => ?_)
    obtain ⟨e1, e2⟩ := q
    cases e1
    rw [e2]
    clear e2 h9
    refine e_G (fun G2 => ?_)
    have z9 : zin kk := by rw [← t9]; exact G2.1 _ _
    rw [t9]
    refine e_iload dL_law_1717 rfl ?_
    refine e_icmp_eq (tgt := 1724) dL_law_1719 (by decide) z9 z9 (fun _ => ?_) (fun c => absurd rfl c)
    refine e_iload dL_law_1724 rfl ?_
    refine e_if_ne (tgt := 1741) dL_law_1726 (by decide) z9 (fun c => absurd k0 c) (fun _ => ?_)
    refine e_aload_n dL_law_1729 rfl rfl ?_
    refine e_iconst dL_law_1730 ?_
    refine e_lald dL_law_1731 ((hM2.2 6 (by decide)).1.trans q6.1) (by decide) (by rw [(hM2.2 6 (by decide)).2.1, q6.2]; decide) (((hM2.2 6 (by decide)).2.2.2.2.2.2.2.1 0).trans qw) ?_
    refine e_iload dL_law_1732 rfl ?_
    refine e_i2lw dL_law_1734 ?_
    refine e_lcmp_eq dL_law_1735 rfl ?_
    refine e_if_eq (tgt := 1741) dL_law_1736 (by decide) (by decide) (fun _ => ?_) (fun c => absurd rfl c)
    refine e_goto (tgt := 2542) dL_law_1741 (by decide) ?_
    refine e_mask [true, true, true, true, true, true, false, false, false] ?_
    refine e_wid (k + 10) (n + 11813) (by show k + 1 ≤ _; omega) (by show n + 6 ≤ _; omega) ?_
    exact K S h2 ⟨hM2.1, RC_99 hM2.2 qR, hI5, ⟨(hM2.2 6 (by decide)).1.trans q6.1, (hM2.2 6 (by decide)).2.1.trans q6.2⟩, ⟨((hM2.2 7 (by decide)).1.trans (qf 7 (by decide)).1).trans h7.1, ((hM2.2 7 (by decide)).2.1.trans (qf 7 (by decide)).2.1).trans h7.2⟩, by omega⟩
  · cases e1
    have qR := (qc.resolve_left (fun z => by omega)).2
    have hI5 : I4 S (B + 2000) := I4_le (by omega) hI4
    refine e_istore dL_law_1711 (Nat.le_of_ble_eq_true rfl) rfl rfl ?_
    refine e_aload_n dL_law_1713 rfl rfl ?_
    refine e_callV (As := []) (cb := 10) dL_law_1714 moX9_thrown mvX9_thrown mlL_140 (by decide) rfl hM2.1.1 rfl (Nat.le_of_ble_eq_true rfl) ⟨Nat.le_of_ble_eq_true rfl, Nat.le_of_ble_eq_true rfl, by show k + 1 ≤ 603072; omega, by show n + 6 ≤ 7207018; omega⟩ (c_X9_thrown hl hM2.1) (fun E h9 q => by cases q.1) (fun v9 h9 q => ?_)
    obtain ⟨e1, e2⟩ := q
    cases e1
    rw [e2]
    clear e2 h9
    refine e_G (fun G2 => ?_)
    have z9 : zin kk := by rw [← t9]; exact G2.1 _ _
    rw [t9]
    refine e_iload dL_law_1717 rfl ?_
    refine e_icmp_eq (tgt := 1724) dL_law_1719 (by decide) z9 z9 (fun _ => ?_) (fun c => absurd rfl c)
    refine e_iload dL_law_1724 rfl ?_
    refine e_if_ne (tgt := 1741) dL_law_1726 (by decide) z9 (fun _ => ?_) (fun c => absurd c k0)
    refine e_goto (tgt := 2542) dL_law_1741 (by decide) ?_
    refine e_mask [true, true, true, true, true, true, false, false, false] ?_
    refine e_wid (k + 10) (n + 11813) (by show k + 1 ≤ _; omega) (by show n + 6 ≤ _; omega) ?_
    exact K S h2 ⟨hM2.1, RC_99 hM2.2 qR, hI5, ⟨(hM2.2 6 (by decide)).1.trans q6.1, (hM2.2 6 (by decide)).2.1.trans q6.2⟩, ⟨((hM2.2 7 (by decide)).1.trans (qf 7 (by decide)).1).trans h7.1, ((hM2.2 7 (by decide)).2.1.trans (qf 7 (by decide)).2.1).trans h7.2⟩, by omega⟩
set_option maxHeartbeats 4000000 in
set_option maxRecDepth 100000 in
theorem cs_rightShare {l : Launch} (hl : l.stackTraces = false) (hG : GMore l) {L : Nat} {f : Nat → Int32} {S : S9} {h : zH} {B i : Int} {k n : Nat} (i0 : 0 ≤ i) (i8 : i + 8 ≤ L) (hk : k + 10 ≤ 603072) (hn : n + 11813 ≤ 7207018) (hB9 : B ≤ 800000000) (hL0 : LI S B h) (K : ∀ S' h', LI S' (B + 2000) h' → AW l (MLW L f) QW (k + 10) (n + 11813) 2542 [zY, zR (some 2), zR (some 99), zR (some 6), zR (some 7), zI i, zX, zX, zX] [] h') : AW l (MLW L f) QW k n 1744 [zY, zR (some 2), zR (some 99), zR (some 6), zR (some 7), zI i, zX, zX, zX] [] h := by
  obtain ⟨hM, hR, hI4, h6, h7, hB0⟩ := hL0
  refine e_G (fun G => ?_)
  have hI := II_of G hM hI4
  have hN : IN S := hI4.1.1
  have hIW : IW S := hI4.1.2.1
  have hIO : IO S := hI4.1.2.2.1
  have hIC : IC S := hI4.1.2.2.2.1
  have hIK : IK S := hI4.1.2.2.2.2
  obtain ⟨n1, n2, n3, n4, n5⟩ := id hN
  obtain ⟨c, hec⟩ : ∃ z : Int, z = (f (i + 1).toNat).toInt := ⟨_, rfl⟩
  have hcz : zin c := by rw [hec]; exact ⟨Int32.le_toInt _, Int32.toInt_lt _⟩
  obtain ⟨kk, hkk⟩ : ∃ kk : Int, kk = (if ¬ isC S c then 1 else if S 38 c = 0 then 2 else 0) := ⟨_, rfl⟩
  have hc1 := c_L_rightShare hl hR hI h7 (by omega) c hcz
  rw [← hkk] at hc1
  refine e_aload_n dL_law_1744 rfl rfl ?_
  refine e_aloadY dL_law_1745 rfl rfl ?_
  refine e_iload dL_law_1746 rfl ?_
  refine e_iconst dL_law_1748 ?_
  refine e_iadd dL_law_1749 ?_
  refine e_sld (L := L) (f := f) rfl dL_law_1750 (by omega) (by omega) (fun y9 => ?_)
  rw [← hec] at y9 ⊢
  refine e_aload dL_law_1751 rfl ?_
  refine e_callH (As := [zR _, zI _, zR _]) dL_law_1753 hoL_rightShare mlL_214 rfl (Nat.le_of_ble_eq_true rfl) ⟨Nat.le_of_ble_eq_true rfl, Nat.le_of_ble_eq_true rfl, by show k + 2 ≤ 603072; omega, by show n + 12 ≤ 7207018; omega⟩ hc1 (fun E h1 q => (QD_inl q).elim) (fun v9 h1 q => ?_)
  obtain ⟨e1, qf, q6, qc⟩ := q
  cases e1
  refine e_istore dL_law_1756 (Nat.le_of_ble_eq_true rfl) rfl rfl ?_
  have hM1 := RM_fr (fun m m0 m1 => qf m (by omega)) hM
  have hc2 : zC l MX9_rightShare [zR (some 99), zI c] h1 (QM S h1 kk (zF FP.fconst0) (zF (fsh (S 39 c) (S 38 c))) S) := by
    rw [hkk]
    exact c_X9_rightShare hl hM1 hN hI4.2.2.1 (by omega) c hcz
  refine e_aload_n dL_law_1758 rfl rfl ?_
  refine e_aloadY dL_law_1759 rfl rfl ?_
  refine e_iload dL_law_1760 rfl ?_
  refine e_iconst dL_law_1762 ?_
  refine e_iadd dL_law_1763 ?_
  refine e_sld (L := L) (f := f) rfl dL_law_1764 (by omega) (by omega) (fun y9 => ?_)
  rw [← hec] at y9 ⊢
  refine e_callV (As := [zI _]) (cb := 10) dL_law_1765 moX9_rightShare mvX9_rightShare mlL_217 (by decide) rfl hM1.1 rfl (Nat.le_of_ble_eq_true rfl) ⟨Nat.le_of_ble_eq_true rfl, Nat.le_of_ble_eq_true rfl, by show k + 2 ≤ 603072; omega, by show n + 12 ≤ 7207018; omega⟩ hc2 (fun E h2 q => by rcases q.2 with ⟨-, z, -⟩ | ⟨-, z, -⟩ <;> cases z) (fun v9 h2 q => ?_)
  obtain ⟨t9, q2⟩ := q
  have hkn : 0 ≤ kk := by rcases qc with z | z <;> omega
  rcases q2 with ⟨k0, e1, hM2⟩ | ⟨k0, e1, hM2⟩
  · cases e1
    obtain ⟨-, qw, qR⟩ := qc.resolve_right (fun z => by omega)
    have hk0 := hkk.symm.trans k0
    obtain ⟨p1, hk1⟩ := kz hk0 (by decide)
    obtain ⟨p2, hk2⟩ := kz hk1 (by decide)
    have hI5 : I4 S (B + 2000) := I4_le (by omega) (hI4)
    refine e_fstore dL_law_1768 (Nat.le_of_ble_eq_true rfl) rfl rfl ?_
    refine e_aload_n dL_law_1770 rfl rfl ?_
    refine e_callV (As := []) (cb := 10) dL_law_1771 moX9_thrown mvX9_thrown mlL_140 (by decide) rfl hM2.1.1 rfl (Nat.le_of_ble_eq_true rfl) ⟨Nat.le_of_ble_eq_true rfl, Nat.le_of_ble_eq_true rfl, by show k + 2 ≤ 603072; omega, by show n + 12 ≤ 7207018; omega⟩ (c_X9_thrown hl hM2.1) (fun E h9 q => by cases q.1) (fun v9 h9 q => ?_)
    obtain ⟨e1, e2⟩ := q
    cases e1
    rw [e2]
    clear e2 h9
    refine e_G (fun G2 => ?_)
    have z9 : zin kk := by rw [← t9]; exact G2.1 _ _
    rw [t9]
    refine e_iload dL_law_1774 rfl ?_
    refine e_icmp_eq (tgt := 1781) dL_law_1776 (by decide) z9 z9 (fun _ => ?_) (fun c => absurd rfl c)
    refine e_iload dL_law_1781 rfl ?_
    refine e_if_ne (tgt := 1819) dL_law_1783 (by decide) z9 (fun c => absurd k0 c) (fun _ => ?_)
    refine e_aload dL_law_1786 rfl ?_
    refine e_iconst dL_law_1788 ?_
    refine e_dald dL_law_1789 ((hM2.2 7 (by decide)).1.trans q6.1) (by decide) (by rw [(hM2.2 7 (by decide)).2.1, q6.2]; decide) (((hM2.2 7 (by decide)).2.2.2.2.2.2.2.2 0).trans qw) ?_
    have b3 := hI.2.2.1.1 c (by omega) (by omega)
    have nn := fsh_nn (a := S 39 c) (b := S 38 c) (by omega) (by omega) (by omega) (by omega)
    refine e_fload dL_law_1790 rfl ?_
    refine e_f2d dL_law_1792 (f2d_ok nn) ?_
    refine e_dcmp (z := 0) dL_law_1793 (by rw [dcmp_rf (f2d_nn nn)]; rfl) ?_
    refine e_if_eq (tgt := 1819) dL_law_1794 (by decide) (by decide) (fun _ => ?_) (fun c => absurd rfl c)
    refine e_goto (tgt := 2542) dL_law_1819 (by decide) ?_
    refine e_mask [true, true, true, true, true, true, false, false, false] ?_
    refine e_wid (k + 10) (n + 11813) (by show k + 2 ≤ _; omega) (by show n + 12 ≤ _; omega) ?_
    exact K S h2 ⟨hM2.1, RC_99 hM2.2 qR, hI5, ⟨((hM2.2 6 (by decide)).1.trans (qf 6 (by decide)).1).trans h6.1, ((hM2.2 6 (by decide)).2.1.trans (qf 6 (by decide)).2.1).trans h6.2⟩, ⟨(hM2.2 7 (by decide)).1.trans q6.1, (hM2.2 7 (by decide)).2.1.trans q6.2⟩, by omega⟩
  · cases e1
    have qR := (qc.resolve_left (fun z => by omega)).2
    have hI5 : I4 S (B + 2000) := I4_le (by omega) hI4
    refine e_fstore dL_law_1768 (Nat.le_of_ble_eq_true rfl) rfl rfl ?_
    refine e_aload_n dL_law_1770 rfl rfl ?_
    refine e_callV (As := []) (cb := 10) dL_law_1771 moX9_thrown mvX9_thrown mlL_140 (by decide) rfl hM2.1.1 rfl (Nat.le_of_ble_eq_true rfl) ⟨Nat.le_of_ble_eq_true rfl, Nat.le_of_ble_eq_true rfl, by show k + 2 ≤ 603072; omega, by show n + 12 ≤ 7207018; omega⟩ (c_X9_thrown hl hM2.1) (fun E h9 q => by cases q.1) (fun v9 h9 q => ?_)
    obtain ⟨e1, e2⟩ := q
    cases e1
    rw [e2]
    clear e2 h9
    refine e_G (fun G2 => ?_)
    have z9 : zin kk := by rw [← t9]; exact G2.1 _ _
    rw [t9]
    refine e_iload dL_law_1774 rfl ?_
    refine e_icmp_eq (tgt := 1781) dL_law_1776 (by decide) z9 z9 (fun _ => ?_) (fun c => absurd rfl c)
    refine e_iload dL_law_1781 rfl ?_
    refine e_if_ne (tgt := 1819) dL_law_1783 (by decide) z9 (fun _ => ?_) (fun c => absurd c k0)
    refine e_goto (tgt := 2542) dL_law_1819 (by decide) ?_
    refine e_mask [true, true, true, true, true, true, false, false, false] ?_
    refine e_wid (k + 10) (n + 11813) (by show k + 2 ≤ _; omega) (by show n + 12 ≤ _; omega) ?_
    exact K S h2 ⟨hM2.1, RC_99 hM2.2 qR, hI5, ⟨((hM2.2 6 (by decide)).1.trans (qf 6 (by decide)).1).trans h6.1, ((hM2.2 6 (by decide)).2.1.trans (qf 6 (by decide)).2.1).trans h6.2⟩, ⟨(hM2.2 7 (by decide)).1.trans q6.1, (hM2.2 7 (by decide)).2.1.trans q6.2⟩, by omega⟩
set_option maxHeartbeats 4000000 in
set_option maxRecDepth 100000 in
theorem cs_copy {l : Launch} (hl : l.stackTraces = false) (hG : GMore l) {L : Nat} {f : Nat → Int32} {S : S9} {h : zH} {B i : Int} {k n : Nat} (i0 : 0 ≤ i) (i8 : i + 8 ≤ L) (hk : k + 10 ≤ 603072) (hn : n + 11813 ≤ 7207018) (hB9 : B ≤ 800000000) (hL0 : LI S B h) (K : ∀ S' h', LI S' (B + 2000) h' → AW l (MLW L f) QW (k + 10) (n + 11813) 2542 [zY, zR (some 2), zR (some 99), zR (some 6), zR (some 7), zI i, zX, zX, zX] [] h') : AW l (MLW L f) QW k n 1822 [zY, zR (some 2), zR (some 99), zR (some 6), zR (some 7), zI i, zX, zX, zX] [] h := by
  obtain ⟨hM, hR, hI4, h6, h7, hB0⟩ := hL0
  refine e_G (fun G => ?_)
  have hI := II_of G hM hI4
  have hN : IN S := hI4.1.1
  have hIW : IW S := hI4.1.2.1
  have hIO : IO S := hI4.1.2.2.1
  have hIC : IC S := hI4.1.2.2.2.1
  have hIK : IK S := hI4.1.2.2.2.2
  obtain ⟨n1, n2, n3, n4, n5⟩ := id hN
  obtain ⟨s, hes⟩ : ∃ z : Int, z = (f (i + 1).toNat).toInt := ⟨_, rfl⟩
  have hsz : zin s := by rw [hes]; exact ⟨Int32.le_toInt _, Int32.toInt_lt _⟩
  obtain ⟨t, het⟩ : ∃ z : Int, z = (f (i + 2).toNat).toInt := ⟨_, rfl⟩
  have htz : zin t := by rw [het]; exact ⟨Int32.le_toInt _, Int32.toInt_lt _⟩
  obtain ⟨v, hev⟩ : ∃ z : Int, z = (f (i + 3).toNat).toInt := ⟨_, rfl⟩
  have hvz : zin v := by rw [hev]; exact ⟨Int32.le_toInt _, Int32.toInt_lt _⟩
  obtain ⟨kk, hkk⟩ : ∃ kk : Int, kk = (if ¬ isS S s then 1 else if ¬ ((0 ≤ t ∧ t ≤ 2) ∧ (0 ≤ v ∧ v ≤ 9999)) then 2 else 0) := ⟨_, rfl⟩
  have hc1 := c_L_copy hl hR hI h6 s hsz t htz v hvz
  rw [← hkk] at hc1
  refine e_aload_n dL_law_1822 rfl rfl ?_
  refine e_aloadY dL_law_1823 rfl rfl ?_
  refine e_iload dL_law_1824 rfl ?_
  refine e_iconst dL_law_1826 ?_
  refine e_iadd dL_law_1827 ?_
  refine e_sld (L := L) (f := f) rfl dL_law_1828 (by omega) (by omega) (fun y9 => ?_)
  rw [← hes] at y9 ⊢
  refine e_aloadY dL_law_1829 rfl rfl ?_
  refine e_iload dL_law_1830 rfl ?_
  refine e_iconst dL_law_1832 ?_
  refine e_iadd dL_law_1833 ?_
  refine e_sld (L := L) (f := f) rfl dL_law_1834 (by omega) (by omega) (fun y9 => ?_)
  rw [← het] at y9 ⊢
  refine e_aloadY dL_law_1835 rfl rfl ?_
  refine e_iload dL_law_1836 rfl ?_
  refine e_iconst dL_law_1838 ?_
  refine e_iadd dL_law_1839 ?_
  refine e_sld (L := L) (f := f) rfl dL_law_1840 (by omega) (by omega) (fun y9 => ?_)
  rw [← hev] at y9 ⊢
  refine e_aload_n dL_law_1841 rfl rfl ?_
  refine e_callH (As := [zR _, zI _, zI _, zI _, zR _]) dL_law_1842 hoL_copy mlL_218 rfl (Nat.le_of_ble_eq_true rfl) ⟨Nat.le_of_ble_eq_true rfl, Nat.le_of_ble_eq_true rfl, by show k + 2 ≤ 603072; omega, by show n + 12 ≤ 7207018; omega⟩ hc1 (fun E h1 q => (QL_inl q).elim) (fun v9 h1 q => ?_)
  obtain ⟨e1, qf, q6, qc⟩ := q
  cases e1
  refine e_istore dL_law_1845 (Nat.le_of_ble_eq_true rfl) rfl rfl ?_
  have hM1 := RM_fr (fun m m0 m1 => qf m (by omega)) hM
  have hc2 : zC l MX9_copy [zR (some 99), zI s, zI t, zI v] h1 (QM S h1 kk (zI 0) (zI (if S 22 s = 0 then -1 else S 23 s)) (copS S s t v)) := by
    rw [hkk]
    exact c_X9_copy hl hM1 hN s t v hsz htz hvz
  refine e_aload_n dL_law_1847 rfl rfl ?_
  refine e_aloadY dL_law_1848 rfl rfl ?_
  refine e_iload dL_law_1849 rfl ?_
  refine e_iconst dL_law_1851 ?_
  refine e_iadd dL_law_1852 ?_
  refine e_sld (L := L) (f := f) rfl dL_law_1853 (by omega) (by omega) (fun y9 => ?_)
  rw [← hes] at y9 ⊢
  refine e_aloadY dL_law_1854 rfl rfl ?_
  refine e_iload dL_law_1855 rfl ?_
  refine e_iconst dL_law_1857 ?_
  refine e_iadd dL_law_1858 ?_
  refine e_sld (L := L) (f := f) rfl dL_law_1859 (by omega) (by omega) (fun y9 => ?_)
  rw [← het] at y9 ⊢
  refine e_aloadY dL_law_1860 rfl rfl ?_
  refine e_iload dL_law_1861 rfl ?_
  refine e_iconst dL_law_1863 ?_
  refine e_iadd dL_law_1864 ?_
  refine e_sld (L := L) (f := f) rfl dL_law_1865 (by omega) (by omega) (fun y9 => ?_)
  rw [← hev] at y9 ⊢
  refine e_callV (As := [zI _, zI _, zI _]) (cb := 10) dL_law_1866 moX9_copy mvX9_copy mlL_220 (by decide) rfl hM1.1 rfl (Nat.le_of_ble_eq_true rfl) ⟨Nat.le_of_ble_eq_true rfl, Nat.le_of_ble_eq_true rfl, by show k + 2 ≤ 603072; omega, by show n + 12 ≤ 7207018; omega⟩ hc2 (fun E h2 q => by rcases q.2 with ⟨-, z, -⟩ | ⟨-, z, -⟩ <;> cases z) (fun v9 h2 q => ?_)
  obtain ⟨t9, q2⟩ := q
  have hkn : 0 ≤ kk := by rcases qc with z | z <;> omega
  rcases q2 with ⟨k0, e1, hM2⟩ | ⟨k0, e1, hM2⟩
  · cases e1
    obtain ⟨-, qw, qR⟩ := qc.resolve_right (fun z => by omega)
    have hk0 := hkk.symm.trans k0
    obtain ⟨p1, hk1⟩ := kz hk0 (by decide)
    obtain ⟨p2, hk2⟩ := kz hk1 (by decide)
    have hI5 : I4 (copS S s t v) (B + 2000) := I4_le (by omega) (I4_copy hI4 (by omega) (by omega) (by omega))
    refine e_istore dL_law_1869 (Nat.le_of_ble_eq_true rfl) rfl rfl ?_
    refine e_aload_n dL_law_1871 rfl rfl ?_
    refine e_callV (As := []) (cb := 10) dL_law_1872 moX9_thrown mvX9_thrown mlL_140 (by decide) rfl hM2.1.1 rfl (Nat.le_of_ble_eq_true rfl) ⟨Nat.le_of_ble_eq_true rfl, Nat.le_of_ble_eq_true rfl, by show k + 2 ≤ 603072; omega, by show n + 12 ≤ 7207018; omega⟩ (c_X9_thrown hl hM2.1) (fun E h9 q => by cases q.1) (fun v9 h9 q => ?_)
    obtain ⟨e1, e2⟩ := q
    cases e1
    rw [e2]
    clear e2 h9
    refine e_G (fun G2 => ?_)
    have z9 : zin kk := by rw [← t9]; exact G2.1 _ _
    rw [t9]
    refine e_iload dL_law_1875 rfl ?_
    refine e_icmp_eq (tgt := 1882) dL_law_1877 (by decide) z9 z9 (fun _ => ?_) (fun c => absurd rfl c)
    refine e_iload dL_law_1882 rfl ?_
    refine e_if_ne (tgt := 1899) dL_law_1884 (by decide) z9 (fun c => absurd k0 c) (fun _ => ?_)
    refine e_aload_n dL_law_1887 rfl rfl ?_
    refine e_iconst dL_law_1888 ?_
    refine e_lald dL_law_1889 ((hM2.2 6 (by decide)).1.trans q6.1) (by decide) (by rw [(hM2.2 6 (by decide)).2.1, q6.2]; decide) (((hM2.2 6 (by decide)).2.2.2.2.2.2.2.1 0).trans qw) ?_
    refine e_iload dL_law_1890 rfl ?_
    refine e_i2lw dL_law_1892 ?_
    refine e_lcmp_eq dL_law_1893 rfl ?_
    refine e_if_eq (tgt := 1899) dL_law_1894 (by decide) (by decide) (fun _ => ?_) (fun c => absurd rfl c)
    refine e_goto (tgt := 2542) dL_law_1899 (by decide) ?_
    refine e_mask [true, true, true, true, true, true, false, false, false] ?_
    refine e_wid (k + 10) (n + 11813) (by show k + 2 ≤ _; omega) (by show n + 12 ≤ _; omega) ?_
    exact K (copS S s t v) h2 ⟨hM2.1, RC_99 hM2.2 qR, hI5, ⟨(hM2.2 6 (by decide)).1.trans q6.1, (hM2.2 6 (by decide)).2.1.trans q6.2⟩, ⟨((hM2.2 7 (by decide)).1.trans (qf 7 (by decide)).1).trans h7.1, ((hM2.2 7 (by decide)).2.1.trans (qf 7 (by decide)).2.1).trans h7.2⟩, by omega⟩
  · cases e1
    have qR := (qc.resolve_left (fun z => by omega)).2
    have hI5 : I4 S (B + 2000) := I4_le (by omega) hI4
    refine e_istore dL_law_1869 (Nat.le_of_ble_eq_true rfl) rfl rfl ?_
    refine e_aload_n dL_law_1871 rfl rfl ?_
    refine e_callV (As := []) (cb := 10) dL_law_1872 moX9_thrown mvX9_thrown mlL_140 (by decide) rfl hM2.1.1 rfl (Nat.le_of_ble_eq_true rfl) ⟨Nat.le_of_ble_eq_true rfl, Nat.le_of_ble_eq_true rfl, by show k + 2 ≤ 603072; omega, by show n + 12 ≤ 7207018; omega⟩ (c_X9_thrown hl hM2.1) (fun E h9 q => by cases q.1) (fun v9 h9 q => ?_)
    obtain ⟨e1, e2⟩ := q
    cases e1
    rw [e2]
    clear e2 h9
    refine e_G (fun G2 => ?_)
    have z9 : zin kk := by rw [← t9]; exact G2.1 _ _
    rw [t9]
    refine e_iload dL_law_1875 rfl ?_
    refine e_icmp_eq (tgt := 1882) dL_law_1877 (by decide) z9 z9 (fun _ => ?_) (fun c => absurd rfl c)
    refine e_iload dL_law_1882 rfl ?_
    refine e_if_ne (tgt := 1899) dL_law_1884 (by decide) z9 (fun _ => ?_) (fun c => absurd c k0)
    refine e_goto (tgt := 2542) dL_law_1899 (by decide) ?_
    refine e_mask [true, true, true, true, true, true, false, false, false] ?_
    refine e_wid (k + 10) (n + 11813) (by show k + 2 ≤ _; omega) (by show n + 12 ≤ _; omega) ?_
    exact K S h2 ⟨hM2.1, RC_99 hM2.2 qR, hI5, ⟨(hM2.2 6 (by decide)).1.trans q6.1, (hM2.2 6 (by decide)).2.1.trans q6.2⟩, ⟨((hM2.2 7 (by decide)).1.trans (qf 7 (by decide)).1).trans h7.1, ((hM2.2 7 (by decide)).2.1.trans (qf 7 (by decide)).2.1).trans h7.2⟩, by omega⟩
set_option maxHeartbeats 4000000 in
set_option maxRecDepth 100000 in
theorem cs_allow {l : Launch} (hl : l.stackTraces = false) (hG : GMore l) {L : Nat} {f : Nat → Int32} {S : S9} {h : zH} {B i : Int} {k n : Nat} (i0 : 0 ≤ i) (i8 : i + 8 ≤ L) (hk : k + 10 ≤ 603072) (hn : n + 11813 ≤ 7207018) (hB9 : B ≤ 800000000) (hL0 : LI S B h) (K : ∀ S' h', LI S' (B + 2000) h' → AW l (MLW L f) QW (k + 10) (n + 11813) 2542 [zY, zR (some 2), zR (some 99), zR (some 6), zR (some 7), zI i, zX, zX, zX] [] h') : AW l (MLW L f) QW k n 1902 [zY, zR (some 2), zR (some 99), zR (some 6), zR (some 7), zI i, zX, zX, zX] [] h := by
  obtain ⟨hM, hR, hI4, h6, h7, hB0⟩ := hL0
  refine e_G (fun G => ?_)
  have hI := II_of G hM hI4
  have hN : IN S := hI4.1.1
  have hIW : IW S := hI4.1.2.1
  have hIO : IO S := hI4.1.2.2.1
  have hIC : IC S := hI4.1.2.2.2.1
  have hIK : IK S := hI4.1.2.2.2.2
  obtain ⟨n1, n2, n3, n4, n5⟩ := id hN
  obtain ⟨a, hea⟩ : ∃ z : Int, z = (f (i + 1).toNat).toInt := ⟨_, rfl⟩
  have haz : zin a := by rw [hea]; exact ⟨Int32.le_toInt _, Int32.toInt_lt _⟩
  obtain ⟨b, heb⟩ : ∃ z : Int, z = (f (i + 2).toNat).toInt := ⟨_, rfl⟩
  have hbz : zin b := by rw [heb]; exact ⟨Int32.le_toInt _, Int32.toInt_lt _⟩
  obtain ⟨t, het⟩ : ∃ z : Int, z = (f (i + 3).toNat).toInt := ⟨_, rfl⟩
  have htz : zin t := by rw [het]; exact ⟨Int32.le_toInt _, Int32.toInt_lt _⟩
  obtain ⟨qv, hqv⟩ : ∃ z : Int, z = (f (i + 4).toNat).toInt := ⟨_, rfl⟩
  obtain ⟨v, hev⟩ : ∃ z : Int, z = (if qv = 0 then 0 else 1) := ⟨_, rfl⟩
  have hv : v = 0 ∨ v = 1 := by rw [hev]; exact b5_01
  obtain ⟨kk, hkk⟩ : ∃ kk : Int, kk = (if ¬ (isS S a ∧ isS S b) then 1 else if ¬ (0 ≤ t ∧ t ≤ 2) ∨ a = b then 2 else 0) := ⟨_, rfl⟩
  have hc1 := c_L_allow hl hR hI h6 a haz b hbz t htz v hv
  rw [← hkk] at hc1
  refine e_aload_n dL_law_1902 rfl rfl ?_
  refine e_aloadY dL_law_1903 rfl rfl ?_
  refine e_iload dL_law_1904 rfl ?_
  refine e_iconst dL_law_1906 ?_
  refine e_iadd dL_law_1907 ?_
  refine e_sld (L := L) (f := f) rfl dL_law_1908 (by omega) (by omega) (fun y9 => ?_)
  rw [← hea] at y9 ⊢
  refine e_aloadY dL_law_1909 rfl rfl ?_
  refine e_iload dL_law_1910 rfl ?_
  refine e_iconst dL_law_1912 ?_
  refine e_iadd dL_law_1913 ?_
  refine e_sld (L := L) (f := f) rfl dL_law_1914 (by omega) (by omega) (fun y9 => ?_)
  rw [← heb] at y9 ⊢
  refine e_aloadY dL_law_1915 rfl rfl ?_
  refine e_iload dL_law_1916 rfl ?_
  refine e_iconst dL_law_1918 ?_
  refine e_iadd dL_law_1919 ?_
  refine e_sld (L := L) (f := f) rfl dL_law_1920 (by omega) (by omega) (fun y9 => ?_)
  rw [← het] at y9 ⊢
  refine e_aloadY dL_law_1921 rfl rfl ?_
  refine e_iload dL_law_1922 rfl ?_
  refine e_iconst dL_law_1924 ?_
  refine e_iadd dL_law_1925 ?_
  refine e_sld (L := L) (f := f) rfl dL_law_1926 (by omega) (by omega) (fun y9 => ?_)
  rw [← hqv] at y9 ⊢
  refine e_b5 (t0 := 1934) (j := 1935) dL_law_1927 (by decide) dL_law_1930 dL_law_1931 (by decide) dL_law_1934 (by decide) y9 ?_
  rw [← hev]
  refine e_aload_n dL_law_1935 rfl rfl ?_
  refine e_callH (As := [zR _, zI _, zI _, zI _, zI _, zR _]) dL_law_1936 hoL_allow mlL_221 rfl (Nat.le_of_ble_eq_true rfl) ⟨Nat.le_of_ble_eq_true rfl, Nat.le_of_ble_eq_true rfl, by show k + 2 ≤ 603072; omega, by show n + 12 ≤ 7207018; omega⟩ hc1 (fun E h1 q => (QL_inl q).elim) (fun v9 h1 q => ?_)
  obtain ⟨e1, qf, q6, qc⟩ := q
  cases e1
  refine e_istore dL_law_1939 (Nat.le_of_ble_eq_true rfl) rfl rfl ?_
  have hM1 := RM_fr (fun m m0 m1 => qf m (by omega)) hM
  have hc2 : zC l MX9_allow [zR (some 99), zI a, zI b, zI t, zI v] h1 (QM S h1 kk (zI 0) (zI (S 25 ((4 * a + b) * 3 + t))) (up S 25 ((4 * a + b) * 3 + t) v)) := by
    rw [hkk]
    exact c_X9_allow hl hM1 hN a b t v haz hbz htz hv
  refine e_aload_n dL_law_1941 rfl rfl ?_
  refine e_aloadY dL_law_1942 rfl rfl ?_
  refine e_iload dL_law_1943 rfl ?_
  refine e_iconst dL_law_1945 ?_
  refine e_iadd dL_law_1946 ?_
  refine e_sld (L := L) (f := f) rfl dL_law_1947 (by omega) (by omega) (fun y9 => ?_)
  rw [← hea] at y9 ⊢
  refine e_aloadY dL_law_1948 rfl rfl ?_
  refine e_iload dL_law_1949 rfl ?_
  refine e_iconst dL_law_1951 ?_
  refine e_iadd dL_law_1952 ?_
  refine e_sld (L := L) (f := f) rfl dL_law_1953 (by omega) (by omega) (fun y9 => ?_)
  rw [← heb] at y9 ⊢
  refine e_aloadY dL_law_1954 rfl rfl ?_
  refine e_iload dL_law_1955 rfl ?_
  refine e_iconst dL_law_1957 ?_
  refine e_iadd dL_law_1958 ?_
  refine e_sld (L := L) (f := f) rfl dL_law_1959 (by omega) (by omega) (fun y9 => ?_)
  rw [← het] at y9 ⊢
  refine e_aloadY dL_law_1960 rfl rfl ?_
  refine e_iload dL_law_1961 rfl ?_
  refine e_iconst dL_law_1963 ?_
  refine e_iadd dL_law_1964 ?_
  refine e_sld (L := L) (f := f) rfl dL_law_1965 (by omega) (by omega) (fun y9 => ?_)
  rw [← hqv] at y9 ⊢
  refine e_b5 (t0 := 1973) (j := 1974) dL_law_1966 (by decide) dL_law_1969 dL_law_1970 (by decide) dL_law_1973 (by decide) y9 ?_
  rw [← hev]
  refine e_callV (As := [zI _, zI _, zI _, zI _]) (cb := 10) dL_law_1974 moX9_allow mvX9_allow mlL_224 (by decide) rfl hM1.1 rfl (Nat.le_of_ble_eq_true rfl) ⟨Nat.le_of_ble_eq_true rfl, Nat.le_of_ble_eq_true rfl, by show k + 2 ≤ 603072; omega, by show n + 12 ≤ 7207018; omega⟩ hc2 (fun E h2 q => by rcases q.2 with ⟨-, z, -⟩ | ⟨-, z, -⟩ <;> cases z) (fun v9 h2 q => ?_)
  obtain ⟨t9, q2⟩ := q
  have hkn : 0 ≤ kk := by rcases qc with z | z <;> omega
  rcases q2 with ⟨k0, e1, hM2⟩ | ⟨k0, e1, hM2⟩
  · cases e1
    obtain ⟨-, qw, qR⟩ := qc.resolve_right (fun z => by omega)
    have hk0 := hkk.symm.trans k0
    obtain ⟨p1, hk1⟩ := kz hk0 (by decide)
    obtain ⟨p2, hk2⟩ := kz hk1 (by decide)
    have hI5 : I4 (up S 25 ((4 * a + b) * 3 + t) v) (B + 2000) := I4_le (by omega) (I4_allow hI4)
    refine e_istore dL_law_1977 (Nat.le_of_ble_eq_true rfl) rfl rfl ?_
    refine e_aload_n dL_law_1979 rfl rfl ?_
    refine e_callV (As := []) (cb := 10) dL_law_1980 moX9_thrown mvX9_thrown mlL_140 (by decide) rfl hM2.1.1 rfl (Nat.le_of_ble_eq_true rfl) ⟨Nat.le_of_ble_eq_true rfl, Nat.le_of_ble_eq_true rfl, by show k + 2 ≤ 603072; omega, by show n + 12 ≤ 7207018; omega⟩ (c_X9_thrown hl hM2.1) (fun E h9 q => by cases q.1) (fun v9 h9 q => ?_)
    obtain ⟨e1, e2⟩ := q
    cases e1
    rw [e2]
    clear e2 h9
    refine e_G (fun G2 => ?_)
    have z9 : zin kk := by rw [← t9]; exact G2.1 _ _
    rw [t9]
    refine e_iload dL_law_1983 rfl ?_
    refine e_icmp_eq (tgt := 1990) dL_law_1985 (by decide) z9 z9 (fun _ => ?_) (fun c => absurd rfl c)
    refine e_iload dL_law_1990 rfl ?_
    refine e_if_ne (tgt := 2014) dL_law_1992 (by decide) z9 (fun c => absurd k0 c) (fun _ => ?_)
    refine e_aload_n dL_law_1995 rfl rfl ?_
    refine e_iconst dL_law_1996 ?_
    refine e_lald dL_law_1997 ((hM2.2 6 (by decide)).1.trans q6.1) (by decide) (by rw [(hM2.2 6 (by decide)).2.1, q6.2]; decide) (((hM2.2 6 (by decide)).2.2.2.2.2.2.2.1 0).trans qw) ?_
    refine e_iload dL_law_1998 rfl ?_
    have hz1 : (S 25 ((4 * a + b) * 3 + t)) = 0 ∨ (S 25 ((4 * a + b) * 3 + t)) = 1 := (hI.2.2.2.2 25 (by decide) _)
    refine e_bl5 (t0 := 2007) (j := 2008) dL_law_2000 (by decide) dL_law_2003 dL_law_2004 (by decide) dL_law_2007 (by decide) (by omega) ?_
    refine e_lcmp_eq dL_law_2008 rfl ?_
    refine e_if_eq (tgt := 2014) dL_law_2009 (by decide) (by decide) (fun _ => ?_) (fun c => absurd rfl c)
    refine e_goto (tgt := 2542) dL_law_2014 (by decide) ?_
    refine e_mask [true, true, true, true, true, true, false, false, false] ?_
    refine e_wid (k + 10) (n + 11813) (by show k + 2 ≤ _; omega) (by show n + 12 ≤ _; omega) ?_
    exact K (up S 25 ((4 * a + b) * 3 + t) v) h2 ⟨hM2.1, RC_99 hM2.2 qR, hI5, ⟨(hM2.2 6 (by decide)).1.trans q6.1, (hM2.2 6 (by decide)).2.1.trans q6.2⟩, ⟨((hM2.2 7 (by decide)).1.trans (qf 7 (by decide)).1).trans h7.1, ((hM2.2 7 (by decide)).2.1.trans (qf 7 (by decide)).2.1).trans h7.2⟩, by omega⟩
  · cases e1
    have qR := (qc.resolve_left (fun z => by omega)).2
    have hI5 : I4 S (B + 2000) := I4_le (by omega) hI4
    refine e_istore dL_law_1977 (Nat.le_of_ble_eq_true rfl) rfl rfl ?_
    refine e_aload_n dL_law_1979 rfl rfl ?_
    refine e_callV (As := []) (cb := 10) dL_law_1980 moX9_thrown mvX9_thrown mlL_140 (by decide) rfl hM2.1.1 rfl (Nat.le_of_ble_eq_true rfl) ⟨Nat.le_of_ble_eq_true rfl, Nat.le_of_ble_eq_true rfl, by show k + 2 ≤ 603072; omega, by show n + 12 ≤ 7207018; omega⟩ (c_X9_thrown hl hM2.1) (fun E h9 q => by cases q.1) (fun v9 h9 q => ?_)
    obtain ⟨e1, e2⟩ := q
    cases e1
    rw [e2]
    clear e2 h9
    refine e_G (fun G2 => ?_)
    have z9 : zin kk := by rw [← t9]; exact G2.1 _ _
    rw [t9]
    refine e_iload dL_law_1983 rfl ?_
    refine e_icmp_eq (tgt := 1990) dL_law_1985 (by decide) z9 z9 (fun _ => ?_) (fun c => absurd rfl c)
    refine e_iload dL_law_1990 rfl ?_
    refine e_if_ne (tgt := 2014) dL_law_1992 (by decide) z9 (fun _ => ?_) (fun c => absurd c k0)
    refine e_goto (tgt := 2542) dL_law_2014 (by decide) ?_
    refine e_mask [true, true, true, true, true, true, false, false, false] ?_
    refine e_wid (k + 10) (n + 11813) (by show k + 2 ≤ _; omega) (by show n + 12 ≤ _; omega) ?_
    exact K S h2 ⟨hM2.1, RC_99 hM2.2 qR, hI5, ⟨(hM2.2 6 (by decide)).1.trans q6.1, (hM2.2 6 (by decide)).2.1.trans q6.2⟩, ⟨((hM2.2 7 (by decide)).1.trans (qf 7 (by decide)).1).trans h7.1, ((hM2.2 7 (by decide)).2.1.trans (qf 7 (by decide)).2.1).trans h7.2⟩, by omega⟩
set_option maxHeartbeats 4000000 in
set_option maxRecDepth 100000 in
theorem cs_paste {l : Launch} (hl : l.stackTraces = false) (hG : GMore l) {L : Nat} {f : Nat → Int32} {S : S9} {h : zH} {B i : Int} {k n : Nat} (i0 : 0 ≤ i) (i8 : i + 8 ≤ L) (hk : k + 10 ≤ 603072) (hn : n + 11813 ≤ 7207018) (hB9 : B ≤ 800000000) (hL0 : LI S B h) (K : ∀ S' h', LI S' (B + 2000) h' → AW l (MLW L f) QW (k + 10) (n + 11813) 2542 [zY, zR (some 2), zR (some 99), zR (some 6), zR (some 7), zI i, zX, zX, zX] [] h') : AW l (MLW L f) QW k n 2017 [zY, zR (some 2), zR (some 99), zR (some 6), zR (some 7), zI i, zX, zX, zX] [] h := by
  obtain ⟨hM, hR, hI4, h6, h7, hB0⟩ := hL0
  refine e_G (fun G => ?_)
  have hI := II_of G hM hI4
  have hN : IN S := hI4.1.1
  have hIW : IW S := hI4.1.2.1
  have hIO : IO S := hI4.1.2.2.1
  have hIC : IC S := hI4.1.2.2.2.1
  have hIK : IK S := hI4.1.2.2.2.2
  obtain ⟨n1, n2, n3, n4, n5⟩ := id hN
  obtain ⟨a, hea⟩ : ∃ z : Int, z = (f (i + 1).toNat).toInt := ⟨_, rfl⟩
  have haz : zin a := by rw [hea]; exact ⟨Int32.le_toInt _, Int32.toInt_lt _⟩
  obtain ⟨b, heb⟩ : ∃ z : Int, z = (f (i + 2).toNat).toInt := ⟨_, rfl⟩
  have hbz : zin b := by rw [heb]; exact ⟨Int32.le_toInt _, Int32.toInt_lt _⟩
  obtain ⟨kk, hkk⟩ : ∃ kk : Int, kk = (if ¬ (isS S a ∧ isS S b) ∨ a = b then 1 else if S 22 a = 0 then 2 else if mayN S a b 4 = 0 then 3 else 0) := ⟨_, rfl⟩
  have hc1 := c_L_paste hl hR hI h6 a haz b hbz
  rw [← hkk] at hc1
  refine e_aload_n dL_law_2017 rfl rfl ?_
  refine e_aloadY dL_law_2018 rfl rfl ?_
  refine e_iload dL_law_2019 rfl ?_
  refine e_iconst dL_law_2021 ?_
  refine e_iadd dL_law_2022 ?_
  refine e_sld (L := L) (f := f) rfl dL_law_2023 (by omega) (by omega) (fun y9 => ?_)
  rw [← hea] at y9 ⊢
  refine e_aloadY dL_law_2024 rfl rfl ?_
  refine e_iload dL_law_2025 rfl ?_
  refine e_iconst dL_law_2027 ?_
  refine e_iadd dL_law_2028 ?_
  refine e_sld (L := L) (f := f) rfl dL_law_2029 (by omega) (by omega) (fun y9 => ?_)
  rw [← heb] at y9 ⊢
  refine e_aload_n dL_law_2030 rfl rfl ?_
  refine e_callH (As := [zR _, zI _, zI _, zR _]) dL_law_2031 hoL_paste mlL_225 rfl (Nat.le_of_ble_eq_true rfl) ⟨Nat.le_of_ble_eq_true rfl, Nat.le_of_ble_eq_true rfl, by show k + 5 ≤ 603072; omega, by show n + 30 ≤ 7207018; omega⟩ hc1 (fun E h1 q => (QL_inl q).elim) (fun v9 h1 q => ?_)
  obtain ⟨e1, qf, q6, qc⟩ := q
  cases e1
  refine e_istore dL_law_2034 (Nat.le_of_ble_eq_true rfl) rfl rfl ?_
  have hM1 := RM_fr (fun m m0 m1 => qf m (by omega)) hM
  have hc2 : zC l MX9_paste [zR (some 99), zI a, zI b] h1 (QM S h1 kk (zI 0) (zI (S 23 a)) (pasS S a b)) := by
    rw [hkk]
    exact c_X9_paste hl hM1 hN a b haz hbz (fun s s0 s4 => by have := hI.2.2.2.1.2.2.2.2 s s0 s4; omega)
  refine e_aload_n dL_law_2036 rfl rfl ?_
  refine e_aloadY dL_law_2037 rfl rfl ?_
  refine e_iload dL_law_2038 rfl ?_
  refine e_iconst dL_law_2040 ?_
  refine e_iadd dL_law_2041 ?_
  refine e_sld (L := L) (f := f) rfl dL_law_2042 (by omega) (by omega) (fun y9 => ?_)
  rw [← hea] at y9 ⊢
  refine e_aloadY dL_law_2043 rfl rfl ?_
  refine e_iload dL_law_2044 rfl ?_
  refine e_iconst dL_law_2046 ?_
  refine e_iadd dL_law_2047 ?_
  refine e_sld (L := L) (f := f) rfl dL_law_2048 (by omega) (by omega) (fun y9 => ?_)
  rw [← heb] at y9 ⊢
  refine e_callV (As := [zI _, zI _]) (cb := 10) dL_law_2049 moX9_paste mvX9_paste mlL_227 (by decide) rfl hM1.1 rfl (Nat.le_of_ble_eq_true rfl) ⟨Nat.le_of_ble_eq_true rfl, Nat.le_of_ble_eq_true rfl, by show k + 5 ≤ 603072; omega, by show n + 30 ≤ 7207018; omega⟩ hc2 (fun E h2 q => by rcases q.2 with ⟨-, z, -⟩ | ⟨-, z, -⟩ <;> cases z) (fun v9 h2 q => ?_)
  obtain ⟨t9, q2⟩ := q
  have hkn : 0 ≤ kk := by rcases qc with z | z <;> omega
  rcases q2 with ⟨k0, e1, hM2⟩ | ⟨k0, e1, hM2⟩
  · cases e1
    obtain ⟨-, qw, qR⟩ := qc.resolve_right (fun z => by omega)
    have hk0 := hkk.symm.trans k0
    obtain ⟨p1, hk1⟩ := kz hk0 (by decide)
    obtain ⟨p2, hk2⟩ := kz hk1 (by decide)
    obtain ⟨p3, hk3⟩ := kz hk2 (by decide)
    have hI5 : I4 (pasS S a b) (B + 2000) := I4_le (by omega) (I4_paste hI4 (by omega) (by omega) (by omega))
    refine e_istore dL_law_2052 (Nat.le_of_ble_eq_true rfl) rfl rfl ?_
    refine e_aload_n dL_law_2054 rfl rfl ?_
    refine e_callV (As := []) (cb := 10) dL_law_2055 moX9_thrown mvX9_thrown mlL_140 (by decide) rfl hM2.1.1 rfl (Nat.le_of_ble_eq_true rfl) ⟨Nat.le_of_ble_eq_true rfl, Nat.le_of_ble_eq_true rfl, by show k + 5 ≤ 603072; omega, by show n + 30 ≤ 7207018; omega⟩ (c_X9_thrown hl hM2.1) (fun E h9 q => by cases q.1) (fun v9 h9 q => ?_)
    obtain ⟨e1, e2⟩ := q
    cases e1
    rw [e2]
    clear e2 h9
    refine e_G (fun G2 => ?_)
    have z9 : zin kk := by rw [← t9]; exact G2.1 _ _
    rw [t9]
    refine e_iload dL_law_2058 rfl ?_
    refine e_icmp_eq (tgt := 2065) dL_law_2060 (by decide) z9 z9 (fun _ => ?_) (fun c => absurd rfl c)
    refine e_iload dL_law_2065 rfl ?_
    refine e_if_ne (tgt := 2082) dL_law_2067 (by decide) z9 (fun c => absurd k0 c) (fun _ => ?_)
    refine e_aload_n dL_law_2070 rfl rfl ?_
    refine e_iconst dL_law_2071 ?_
    refine e_lald dL_law_2072 ((hM2.2 6 (by decide)).1.trans q6.1) (by decide) (by rw [(hM2.2 6 (by decide)).2.1, q6.2]; decide) (((hM2.2 6 (by decide)).2.2.2.2.2.2.2.1 0).trans qw) ?_
    refine e_iload dL_law_2073 rfl ?_
    refine e_i2lw dL_law_2075 ?_
    refine e_lcmp_eq dL_law_2076 rfl ?_
    refine e_if_eq (tgt := 2082) dL_law_2077 (by decide) (by decide) (fun _ => ?_) (fun c => absurd rfl c)
    refine e_goto (tgt := 2542) dL_law_2082 (by decide) ?_
    refine e_mask [true, true, true, true, true, true, false, false, false] ?_
    refine e_wid (k + 10) (n + 11813) (by show k + 5 ≤ _; omega) (by show n + 30 ≤ _; omega) ?_
    exact K (pasS S a b) h2 ⟨hM2.1, RC_99 hM2.2 qR, hI5, ⟨(hM2.2 6 (by decide)).1.trans q6.1, (hM2.2 6 (by decide)).2.1.trans q6.2⟩, ⟨((hM2.2 7 (by decide)).1.trans (qf 7 (by decide)).1).trans h7.1, ((hM2.2 7 (by decide)).2.1.trans (qf 7 (by decide)).2.1).trans h7.2⟩, by omega⟩
  · cases e1
    have qR := (qc.resolve_left (fun z => by omega)).2
    have hI5 : I4 S (B + 2000) := I4_le (by omega) hI4
    refine e_istore dL_law_2052 (Nat.le_of_ble_eq_true rfl) rfl rfl ?_
    refine e_aload_n dL_law_2054 rfl rfl ?_
    refine e_callV (As := []) (cb := 10) dL_law_2055 moX9_thrown mvX9_thrown mlL_140 (by decide) rfl hM2.1.1 rfl (Nat.le_of_ble_eq_true rfl) ⟨Nat.le_of_ble_eq_true rfl, Nat.le_of_ble_eq_true rfl, by show k + 5 ≤ 603072; omega, by show n + 30 ≤ 7207018; omega⟩ (c_X9_thrown hl hM2.1) (fun E h9 q => by cases q.1) (fun v9 h9 q => ?_)
    obtain ⟨e1, e2⟩ := q
    cases e1
    rw [e2]
    clear e2 h9
    refine e_G (fun G2 => ?_)
    have z9 : zin kk := by rw [← t9]; exact G2.1 _ _
    rw [t9]
    refine e_iload dL_law_2058 rfl ?_
    refine e_icmp_eq (tgt := 2065) dL_law_2060 (by decide) z9 z9 (fun _ => ?_) (fun c => absurd rfl c)
    refine e_iload dL_law_2065 rfl ?_
    refine e_if_ne (tgt := 2082) dL_law_2067 (by decide) z9 (fun _ => ?_) (fun c => absurd c k0)
    refine e_goto (tgt := 2542) dL_law_2082 (by decide) ?_
    refine e_mask [true, true, true, true, true, true, false, false, false] ?_
    refine e_wid (k + 10) (n + 11813) (by show k + 5 ≤ _; omega) (by show n + 30 ≤ _; omega) ?_
    exact K S h2 ⟨hM2.1, RC_99 hM2.2 qR, hI5, ⟨(hM2.2 6 (by decide)).1.trans q6.1, (hM2.2 6 (by decide)).2.1.trans q6.2⟩, ⟨((hM2.2 7 (by decide)).1.trans (qf 7 (by decide)).1).trans h7.1, ((hM2.2 7 (by decide)).2.1.trans (qf 7 (by decide)).2.1).trans h7.2⟩, by omega⟩
set_option maxHeartbeats 4000000 in
set_option maxRecDepth 100000 in
theorem cs_move {l : Launch} (hl : l.stackTraces = false) (hG : GMore l) {L : Nat} {f : Nat → Int32} {S : S9} {h : zH} {B i : Int} {k n : Nat} (i0 : 0 ≤ i) (i8 : i + 8 ≤ L) (hk : k + 10 ≤ 603072) (hn : n + 11813 ≤ 7207018) (hB9 : B ≤ 800000000) (hL0 : LI S B h) (K : ∀ S' h', LI S' (B + 2000) h' → AW l (MLW L f) QW (k + 10) (n + 11813) 2542 [zY, zR (some 2), zR (some 99), zR (some 6), zR (some 7), zI i, zX, zX, zX] [] h') : AW l (MLW L f) QW k n 2085 [zY, zR (some 2), zR (some 99), zR (some 6), zR (some 7), zI i, zX, zX, zX] [] h := by
  obtain ⟨hM, hR, hI4, h6, h7, hB0⟩ := hL0
  refine e_G (fun G => ?_)
  have hI := II_of G hM hI4
  have hN : IN S := hI4.1.1
  have hIW : IW S := hI4.1.2.1
  have hIO : IO S := hI4.1.2.2.1
  have hIC : IC S := hI4.1.2.2.2.1
  have hIK : IK S := hI4.1.2.2.2.2
  obtain ⟨n1, n2, n3, n4, n5⟩ := id hN
  obtain ⟨s, hes⟩ : ∃ z : Int, z = (f (i + 1).toNat).toInt := ⟨_, rfl⟩
  have hsz : zin s := by rw [hes]; exact ⟨Int32.le_toInt _, Int32.toInt_lt _⟩
  obtain ⟨kk, hkk⟩ : ∃ kk : Int, kk = (if ¬ isS S s then 1 else if S 26 s = 1 then 2 else 0) := ⟨_, rfl⟩
  have hc1 := c_L_move hl hR hI h6 s hsz
  rw [← hkk] at hc1
  refine e_aload_n dL_law_2085 rfl rfl ?_
  refine e_aloadY dL_law_2086 rfl rfl ?_
  refine e_iload dL_law_2087 rfl ?_
  refine e_iconst dL_law_2089 ?_
  refine e_iadd dL_law_2090 ?_
  refine e_sld (L := L) (f := f) rfl dL_law_2091 (by omega) (by omega) (fun y9 => ?_)
  rw [← hes] at y9 ⊢
  refine e_aload_n dL_law_2092 rfl rfl ?_
  refine e_callH (As := [zR _, zI _, zR _]) dL_law_2093 hoL_move mlL_228 rfl (Nat.le_of_ble_eq_true rfl) ⟨Nat.le_of_ble_eq_true rfl, Nat.le_of_ble_eq_true rfl, by show k + 2 ≤ 603072; omega, by show n + 12 ≤ 7207018; omega⟩ hc1 (fun E h1 q => (QL_inl q).elim) (fun v9 h1 q => ?_)
  obtain ⟨e1, qf, q6, qc⟩ := q
  cases e1
  refine e_istore dL_law_2096 (Nat.le_of_ble_eq_true rfl) rfl rfl ?_
  have hM1 := RM_fr (fun m m0 m1 => qf m (by omega)) hM
  have hc2 : zC l MX9_move [zR (some 99), zI s] h1 (QM S h1 kk (zI 0) (zI (b2 (0 < S 28 s))) (movgS S s)) := by
    rw [hkk]
    exact c_X9_move hl hM1 hN s hsz
  refine e_aload_n dL_law_2098 rfl rfl ?_
  refine e_aloadY dL_law_2099 rfl rfl ?_
  refine e_iload dL_law_2100 rfl ?_
  refine e_iconst dL_law_2102 ?_
  refine e_iadd dL_law_2103 ?_
  refine e_sld (L := L) (f := f) rfl dL_law_2104 (by omega) (by omega) (fun y9 => ?_)
  rw [← hes] at y9 ⊢
  refine e_callV (As := [zI _]) (cb := 10) dL_law_2105 moX9_move mvX9_move mlL_230 (by decide) rfl hM1.1 rfl (Nat.le_of_ble_eq_true rfl) ⟨Nat.le_of_ble_eq_true rfl, Nat.le_of_ble_eq_true rfl, by show k + 2 ≤ 603072; omega, by show n + 12 ≤ 7207018; omega⟩ hc2 (fun E h2 q => by rcases q.2 with ⟨-, z, -⟩ | ⟨-, z, -⟩ <;> cases z) (fun v9 h2 q => ?_)
  obtain ⟨t9, q2⟩ := q
  have hkn : 0 ≤ kk := by rcases qc with z | z <;> omega
  rcases q2 with ⟨k0, e1, hM2⟩ | ⟨k0, e1, hM2⟩
  · cases e1
    obtain ⟨-, qw, qR⟩ := qc.resolve_right (fun z => by omega)
    have hk0 := hkk.symm.trans k0
    obtain ⟨p1, hk1⟩ := kz hk0 (by decide)
    obtain ⟨p2, hk2⟩ := kz hk1 (by decide)
    have hI5 : I4 (movgS S s) (B + 2000) := I4_le (by omega) (I4_move hI4 (by omega))
    refine e_istore dL_law_2108 (Nat.le_of_ble_eq_true rfl) rfl rfl ?_
    refine e_aload_n dL_law_2110 rfl rfl ?_
    refine e_callV (As := []) (cb := 10) dL_law_2111 moX9_thrown mvX9_thrown mlL_140 (by decide) rfl hM2.1.1 rfl (Nat.le_of_ble_eq_true rfl) ⟨Nat.le_of_ble_eq_true rfl, Nat.le_of_ble_eq_true rfl, by show k + 2 ≤ 603072; omega, by show n + 12 ≤ 7207018; omega⟩ (c_X9_thrown hl hM2.1) (fun E h9 q => by cases q.1) (fun v9 h9 q => ?_)
    obtain ⟨e1, e2⟩ := q
    cases e1
    rw [e2]
    clear e2 h9
    refine e_G (fun G2 => ?_)
    have z9 : zin kk := by rw [← t9]; exact G2.1 _ _
    rw [t9]
    refine e_iload dL_law_2114 rfl ?_
    refine e_icmp_eq (tgt := 2121) dL_law_2116 (by decide) z9 z9 (fun _ => ?_) (fun c => absurd rfl c)
    refine e_iload dL_law_2121 rfl ?_
    refine e_if_ne (tgt := 2145) dL_law_2123 (by decide) z9 (fun c => absurd k0 c) (fun _ => ?_)
    refine e_aload_n dL_law_2126 rfl rfl ?_
    refine e_iconst dL_law_2127 ?_
    refine e_lald dL_law_2128 ((hM2.2 6 (by decide)).1.trans q6.1) (by decide) (by rw [(hM2.2 6 (by decide)).2.1, q6.2]; decide) (((hM2.2 6 (by decide)).2.2.2.2.2.2.2.1 0).trans qw) ?_
    refine e_iload dL_law_2129 rfl ?_
    have hz1 : (b2 (0 < S 28 s)) = 0 ∨ (b2 (0 < S 28 s)) = 1 := b2_01
    refine e_bl5 (t0 := 2138) (j := 2139) dL_law_2131 (by decide) dL_law_2134 dL_law_2135 (by decide) dL_law_2138 (by decide) (by omega) ?_
    refine e_lcmp_eq dL_law_2139 rfl ?_
    refine e_if_eq (tgt := 2145) dL_law_2140 (by decide) (by decide) (fun _ => ?_) (fun c => absurd rfl c)
    refine e_goto (tgt := 2542) dL_law_2145 (by decide) ?_
    refine e_mask [true, true, true, true, true, true, false, false, false] ?_
    refine e_wid (k + 10) (n + 11813) (by show k + 2 ≤ _; omega) (by show n + 12 ≤ _; omega) ?_
    exact K (movgS S s) h2 ⟨hM2.1, RC_99 hM2.2 qR, hI5, ⟨(hM2.2 6 (by decide)).1.trans q6.1, (hM2.2 6 (by decide)).2.1.trans q6.2⟩, ⟨((hM2.2 7 (by decide)).1.trans (qf 7 (by decide)).1).trans h7.1, ((hM2.2 7 (by decide)).2.1.trans (qf 7 (by decide)).2.1).trans h7.2⟩, by omega⟩
  · cases e1
    have qR := (qc.resolve_left (fun z => by omega)).2
    have hI5 : I4 S (B + 2000) := I4_le (by omega) hI4
    refine e_istore dL_law_2108 (Nat.le_of_ble_eq_true rfl) rfl rfl ?_
    refine e_aload_n dL_law_2110 rfl rfl ?_
    refine e_callV (As := []) (cb := 10) dL_law_2111 moX9_thrown mvX9_thrown mlL_140 (by decide) rfl hM2.1.1 rfl (Nat.le_of_ble_eq_true rfl) ⟨Nat.le_of_ble_eq_true rfl, Nat.le_of_ble_eq_true rfl, by show k + 2 ≤ 603072; omega, by show n + 12 ≤ 7207018; omega⟩ (c_X9_thrown hl hM2.1) (fun E h9 q => by cases q.1) (fun v9 h9 q => ?_)
    obtain ⟨e1, e2⟩ := q
    cases e1
    rw [e2]
    clear e2 h9
    refine e_G (fun G2 => ?_)
    have z9 : zin kk := by rw [← t9]; exact G2.1 _ _
    rw [t9]
    refine e_iload dL_law_2114 rfl ?_
    refine e_icmp_eq (tgt := 2121) dL_law_2116 (by decide) z9 z9 (fun _ => ?_) (fun c => absurd rfl c)
    refine e_iload dL_law_2121 rfl ?_
    refine e_if_ne (tgt := 2145) dL_law_2123 (by decide) z9 (fun _ => ?_) (fun c => absurd c k0)
    refine e_goto (tgt := 2542) dL_law_2145 (by decide) ?_
    refine e_mask [true, true, true, true, true, true, false, false, false] ?_
    refine e_wid (k + 10) (n + 11813) (by show k + 2 ≤ _; omega) (by show n + 12 ≤ _; omega) ?_
    exact K S h2 ⟨hM2.1, RC_99 hM2.2 qR, hI5, ⟨(hM2.2 6 (by decide)).1.trans q6.1, (hM2.2 6 (by decide)).2.1.trans q6.2⟩, ⟨((hM2.2 7 (by decide)).1.trans (qf 7 (by decide)).1).trans h7.1, ((hM2.2 7 (by decide)).2.1.trans (qf 7 (by decide)).2.1).trans h7.2⟩, by omega⟩
set_option maxHeartbeats 4000000 in
set_option maxRecDepth 100000 in
theorem cs_left {l : Launch} (hl : l.stackTraces = false) (hG : GMore l) {L : Nat} {f : Nat → Int32} {S : S9} {h : zH} {B i : Int} {k n : Nat} (i0 : 0 ≤ i) (i8 : i + 8 ≤ L) (hk : k + 10 ≤ 603072) (hn : n + 11813 ≤ 7207018) (hB9 : B ≤ 800000000) (hL0 : LI S B h) (K : ∀ S' h', LI S' (B + 2000) h' → AW l (MLW L f) QW (k + 10) (n + 11813) 2542 [zY, zR (some 2), zR (some 99), zR (some 6), zR (some 7), zI i, zX, zX, zX] [] h') : AW l (MLW L f) QW k n 2148 [zY, zR (some 2), zR (some 99), zR (some 6), zR (some 7), zI i, zX, zX, zX] [] h := by
  obtain ⟨hM, hR, hI4, h6, h7, hB0⟩ := hL0
  refine e_G (fun G => ?_)
  have hI := II_of G hM hI4
  have hN : IN S := hI4.1.1
  have hIW : IW S := hI4.1.2.1
  have hIO : IO S := hI4.1.2.2.1
  have hIC : IC S := hI4.1.2.2.2.1
  have hIK : IK S := hI4.1.2.2.2.2
  obtain ⟨n1, n2, n3, n4, n5⟩ := id hN
  obtain ⟨s, hes⟩ : ∃ z : Int, z = (f (i + 1).toNat).toInt := ⟨_, rfl⟩
  have hsz : zin s := by rw [hes]; exact ⟨Int32.le_toInt _, Int32.toInt_lt _⟩
  obtain ⟨kk, hkk⟩ : ∃ kk : Int, kk = (if ¬ isS S s then 1 else if ¬ S 26 s = 1 then 2 else 0) := ⟨_, rfl⟩
  have hc1 := c_L_left hl hR hI h6 s hsz
  rw [← hkk] at hc1
  refine e_aload_n dL_law_2148 rfl rfl ?_
  refine e_aloadY dL_law_2149 rfl rfl ?_
  refine e_iload dL_law_2150 rfl ?_
  refine e_iconst dL_law_2152 ?_
  refine e_iadd dL_law_2153 ?_
  refine e_sld (L := L) (f := f) rfl dL_law_2154 (by omega) (by omega) (fun y9 => ?_)
  rw [← hes] at y9 ⊢
  refine e_aload_n dL_law_2155 rfl rfl ?_
  refine e_callH (As := [zR _, zI _, zR _]) dL_law_2156 hoL_left mlL_231 rfl (Nat.le_of_ble_eq_true rfl) ⟨Nat.le_of_ble_eq_true rfl, Nat.le_of_ble_eq_true rfl, by show k + 2 ≤ 603072; omega, by show n + 12 ≤ 7207018; omega⟩ hc1 (fun E h1 q => (QL_inl q).elim) (fun v9 h1 q => ?_)
  obtain ⟨e1, qf, q6, qc⟩ := q
  cases e1
  refine e_istore dL_law_2159 (Nat.le_of_ble_eq_true rfl) rfl rfl ?_
  have hM1 := RM_fr (fun m m0 m1 => qf m (by omega)) hM
  have hc2 : zC l MX9_left [zR (some 99), zI s] h1 (QM S h1 kk (zI 0) (zI (cntL S s)) S) := by
    rw [hkk]
    exact c_X9_left hl hM1 hI4.1 s hsz
  refine e_aload_n dL_law_2161 rfl rfl ?_
  refine e_aloadY dL_law_2162 rfl rfl ?_
  refine e_iload dL_law_2163 rfl ?_
  refine e_iconst dL_law_2165 ?_
  refine e_iadd dL_law_2166 ?_
  refine e_sld (L := L) (f := f) rfl dL_law_2167 (by omega) (by omega) (fun y9 => ?_)
  rw [← hes] at y9 ⊢
  refine e_callV (As := [zI _]) (cb := 10) dL_law_2168 moX9_left mvX9_left mlL_233 (by decide) rfl hM1.1 rfl (Nat.le_of_ble_eq_true rfl) ⟨Nat.le_of_ble_eq_true rfl, Nat.le_of_ble_eq_true rfl, by show k + 2 ≤ 603072; omega, by show n + 12 ≤ 7207018; omega⟩ hc2 (fun E h2 q => by rcases q.2 with ⟨-, z, -⟩ | ⟨-, z, -⟩ <;> cases z) (fun v9 h2 q => ?_)
  obtain ⟨t9, q2⟩ := q
  have hkn : 0 ≤ kk := by rcases qc with z | z <;> omega
  rcases q2 with ⟨k0, e1, hM2⟩ | ⟨k0, e1, hM2⟩
  · cases e1
    obtain ⟨-, qw, qR⟩ := qc.resolve_right (fun z => by omega)
    have hk0 := hkk.symm.trans k0
    obtain ⟨p1, hk1⟩ := kz hk0 (by decide)
    obtain ⟨p2, hk2⟩ := kz hk1 (by decide)
    have hI5 : I4 S (B + 2000) := I4_le (by omega) (hI4)
    refine e_istore dL_law_2171 (Nat.le_of_ble_eq_true rfl) rfl rfl ?_
    refine e_aload_n dL_law_2173 rfl rfl ?_
    refine e_callV (As := []) (cb := 10) dL_law_2174 moX9_thrown mvX9_thrown mlL_140 (by decide) rfl hM2.1.1 rfl (Nat.le_of_ble_eq_true rfl) ⟨Nat.le_of_ble_eq_true rfl, Nat.le_of_ble_eq_true rfl, by show k + 2 ≤ 603072; omega, by show n + 12 ≤ 7207018; omega⟩ (c_X9_thrown hl hM2.1) (fun E h9 q => by cases q.1) (fun v9 h9 q => ?_)
    obtain ⟨e1, e2⟩ := q
    cases e1
    rw [e2]
    clear e2 h9
    refine e_G (fun G2 => ?_)
    have z9 : zin kk := by rw [← t9]; exact G2.1 _ _
    rw [t9]
    refine e_iload dL_law_2177 rfl ?_
    refine e_icmp_eq (tgt := 2184) dL_law_2179 (by decide) z9 z9 (fun _ => ?_) (fun c => absurd rfl c)
    refine e_iload dL_law_2184 rfl ?_
    refine e_if_ne (tgt := 2201) dL_law_2186 (by decide) z9 (fun c => absurd k0 c) (fun _ => ?_)
    refine e_aload_n dL_law_2189 rfl rfl ?_
    refine e_iconst dL_law_2190 ?_
    refine e_lald dL_law_2191 ((hM2.2 6 (by decide)).1.trans q6.1) (by decide) (by rw [(hM2.2 6 (by decide)).2.1, q6.2]; decide) (((hM2.2 6 (by decide)).2.2.2.2.2.2.2.1 0).trans qw) ?_
    refine e_iload dL_law_2192 rfl ?_
    refine e_i2lw dL_law_2194 ?_
    refine e_lcmp_eq dL_law_2195 rfl ?_
    refine e_if_eq (tgt := 2201) dL_law_2196 (by decide) (by decide) (fun _ => ?_) (fun c => absurd rfl c)
    refine e_goto (tgt := 2542) dL_law_2201 (by decide) ?_
    refine e_mask [true, true, true, true, true, true, false, false, false] ?_
    refine e_wid (k + 10) (n + 11813) (by show k + 2 ≤ _; omega) (by show n + 12 ≤ _; omega) ?_
    exact K S h2 ⟨hM2.1, RC_99 hM2.2 qR, hI5, ⟨(hM2.2 6 (by decide)).1.trans q6.1, (hM2.2 6 (by decide)).2.1.trans q6.2⟩, ⟨((hM2.2 7 (by decide)).1.trans (qf 7 (by decide)).1).trans h7.1, ((hM2.2 7 (by decide)).2.1.trans (qf 7 (by decide)).2.1).trans h7.2⟩, by omega⟩
  · cases e1
    have qR := (qc.resolve_left (fun z => by omega)).2
    have hI5 : I4 S (B + 2000) := I4_le (by omega) hI4
    refine e_istore dL_law_2171 (Nat.le_of_ble_eq_true rfl) rfl rfl ?_
    refine e_aload_n dL_law_2173 rfl rfl ?_
    refine e_callV (As := []) (cb := 10) dL_law_2174 moX9_thrown mvX9_thrown mlL_140 (by decide) rfl hM2.1.1 rfl (Nat.le_of_ble_eq_true rfl) ⟨Nat.le_of_ble_eq_true rfl, Nat.le_of_ble_eq_true rfl, by show k + 2 ≤ 603072; omega, by show n + 12 ≤ 7207018; omega⟩ (c_X9_thrown hl hM2.1) (fun E h9 q => by cases q.1) (fun v9 h9 q => ?_)
    obtain ⟨e1, e2⟩ := q
    cases e1
    rw [e2]
    clear e2 h9
    refine e_G (fun G2 => ?_)
    have z9 : zin kk := by rw [← t9]; exact G2.1 _ _
    rw [t9]
    refine e_iload dL_law_2177 rfl ?_
    refine e_icmp_eq (tgt := 2184) dL_law_2179 (by decide) z9 z9 (fun _ => ?_) (fun c => absurd rfl c)
    refine e_iload dL_law_2184 rfl ?_
    refine e_if_ne (tgt := 2201) dL_law_2186 (by decide) z9 (fun _ => ?_) (fun c => absurd c k0)
    refine e_goto (tgt := 2542) dL_law_2201 (by decide) ?_
    refine e_mask [true, true, true, true, true, true, false, false, false] ?_
    refine e_wid (k + 10) (n + 11813) (by show k + 2 ≤ _; omega) (by show n + 12 ≤ _; omega) ?_
    exact K S h2 ⟨hM2.1, RC_99 hM2.2 qR, hI5, ⟨(hM2.2 6 (by decide)).1.trans q6.1, (hM2.2 6 (by decide)).2.1.trans q6.2⟩, ⟨((hM2.2 7 (by decide)).1.trans (qf 7 (by decide)).1).trans h7.1, ((hM2.2 7 (by decide)).2.1.trans (qf 7 (by decide)).2.1).trans h7.2⟩, by omega⟩
set_option maxHeartbeats 4000000 in
set_option maxRecDepth 100000 in
theorem cs_host {l : Launch} (hl : l.stackTraces = false) (hG : GMore l) {L : Nat} {f : Nat → Int32} {S : S9} {h : zH} {B i : Int} {k n : Nat} (i0 : 0 ≤ i) (i8 : i + 8 ≤ L) (hk : k + 10 ≤ 603072) (hn : n + 11813 ≤ 7207018) (hB9 : B ≤ 800000000) (hL0 : LI S B h) (K : ∀ S' h', LI S' (B + 2000) h' → AW l (MLW L f) QW (k + 10) (n + 11813) 2542 [zY, zR (some 2), zR (some 99), zR (some 6), zR (some 7), zI i, zX, zX, zX] [] h') : AW l (MLW L f) QW k n 2204 [zY, zR (some 2), zR (some 99), zR (some 6), zR (some 7), zI i, zX, zX, zX] [] h := by
  obtain ⟨hM, hR, hI4, h6, h7, hB0⟩ := hL0
  refine e_G (fun G => ?_)
  have hI := II_of G hM hI4
  have hN : IN S := hI4.1.1
  have hIW : IW S := hI4.1.2.1
  have hIO : IO S := hI4.1.2.2.1
  have hIC : IC S := hI4.1.2.2.2.1
  have hIK : IK S := hI4.1.2.2.2.2
  obtain ⟨n1, n2, n3, n4, n5⟩ := id hN
  obtain ⟨s, hes⟩ : ∃ z : Int, z = (f (i + 1).toNat).toInt := ⟨_, rfl⟩
  have hsz : zin s := by rw [hes]; exact ⟨Int32.le_toInt _, Int32.toInt_lt _⟩
  obtain ⟨kk, hkk⟩ : ∃ kk : Int, kk = (if ¬ isS S s then 1 else 0) := ⟨_, rfl⟩
  have hc1 := c_L_host hl hR hI h6 s hsz
  rw [← hkk] at hc1
  refine e_aload_n dL_law_2204 rfl rfl ?_
  refine e_aloadY dL_law_2205 rfl rfl ?_
  refine e_iload dL_law_2206 rfl ?_
  refine e_iconst dL_law_2208 ?_
  refine e_iadd dL_law_2209 ?_
  refine e_sld (L := L) (f := f) rfl dL_law_2210 (by omega) (by omega) (fun y9 => ?_)
  rw [← hes] at y9 ⊢
  refine e_aload_n dL_law_2211 rfl rfl ?_
  refine e_callH (As := [zR _, zI _, zR _]) dL_law_2212 hoL_host mlL_234 rfl (Nat.le_of_ble_eq_true rfl) ⟨Nat.le_of_ble_eq_true rfl, Nat.le_of_ble_eq_true rfl, by show k + 1 ≤ 603072; omega, by show n + 6 ≤ 7207018; omega⟩ hc1 (fun E h1 q => (QL_inl q).elim) (fun v9 h1 q => ?_)
  obtain ⟨e1, qf, q6, qc⟩ := q
  cases e1
  refine e_istore dL_law_2215 (Nat.le_of_ble_eq_true rfl) rfl rfl ?_
  have hM1 := RM_fr (fun m m0 m1 => qf m (by omega)) hM
  have hc2 : zC l MX9_host [zR (some 99), zI s] h1 (QM S h1 kk (zI 0) (zI (S 28 s)) S) := by
    rw [hkk]
    exact c_X9_host hl hM1 hN s hsz
  refine e_aload_n dL_law_2217 rfl rfl ?_
  refine e_aloadY dL_law_2218 rfl rfl ?_
  refine e_iload dL_law_2219 rfl ?_
  refine e_iconst dL_law_2221 ?_
  refine e_iadd dL_law_2222 ?_
  refine e_sld (L := L) (f := f) rfl dL_law_2223 (by omega) (by omega) (fun y9 => ?_)
  rw [← hes] at y9 ⊢
  refine e_callV (As := [zI _]) (cb := 10) dL_law_2224 moX9_host mvX9_host mlL_236 (by decide) rfl hM1.1 rfl (Nat.le_of_ble_eq_true rfl) ⟨Nat.le_of_ble_eq_true rfl, Nat.le_of_ble_eq_true rfl, by show k + 1 ≤ 603072; omega, by show n + 6 ≤ 7207018; omega⟩ hc2 (fun E h2 q => by rcases q.2 with ⟨-, z, -⟩ | ⟨-, z, -⟩ <;> cases z) (fun v9 h2 q => ?_)
  obtain ⟨t9, q2⟩ := q
  have hkn : 0 ≤ kk := by rcases qc with z | z <;> omega
  rcases q2 with ⟨k0, e1, hM2⟩ | ⟨k0, e1, hM2⟩
  · cases e1
    obtain ⟨-, qw, qR⟩ := qc.resolve_right (fun z => by omega)
    have hk0 := hkk.symm.trans k0
    obtain ⟨p1, hk1⟩ := kz hk0 (by decide)
    have hI5 : I4 S (B + 2000) := I4_le (by omega) (hI4)
    refine e_istore dL_law_2227 (Nat.le_of_ble_eq_true rfl) rfl rfl ?_
    refine e_aload_n dL_law_2229 rfl rfl ?_
    refine e_callV (As := []) (cb := 10) dL_law_2230 moX9_thrown mvX9_thrown mlL_140 (by decide) rfl hM2.1.1 rfl (Nat.le_of_ble_eq_true rfl) ⟨Nat.le_of_ble_eq_true rfl, Nat.le_of_ble_eq_true rfl, by show k + 1 ≤ 603072; omega, by show n + 6 ≤ 7207018; omega⟩ (c_X9_thrown hl hM2.1) (fun E h9 q => by cases q.1) (fun v9 h9 q => ?_)
    obtain ⟨e1, e2⟩ := q
    cases e1
    rw [e2]
    clear e2 h9
    refine e_G (fun G2 => ?_)
    have z9 : zin kk := by rw [← t9]; exact G2.1 _ _
    rw [t9]
    refine e_iload dL_law_2233 rfl ?_
    refine e_icmp_eq (tgt := 2240) dL_law_2235 (by decide) z9 z9 (fun _ => ?_) (fun c => absurd rfl c)
    refine e_iload dL_law_2240 rfl ?_
    refine e_if_ne (tgt := 2257) dL_law_2242 (by decide) z9 (fun c => absurd k0 c) (fun _ => ?_)
    refine e_aload_n dL_law_2245 rfl rfl ?_
    refine e_iconst dL_law_2246 ?_
    refine e_lald dL_law_2247 ((hM2.2 6 (by decide)).1.trans q6.1) (by decide) (by rw [(hM2.2 6 (by decide)).2.1, q6.2]; decide) (((hM2.2 6 (by decide)).2.2.2.2.2.2.2.1 0).trans qw) ?_
    refine e_iload dL_law_2248 rfl ?_
    refine e_i2lw dL_law_2250 ?_
    refine e_lcmp_eq dL_law_2251 rfl ?_
    refine e_if_eq (tgt := 2257) dL_law_2252 (by decide) (by decide) (fun _ => ?_) (fun c => absurd rfl c)
    refine e_goto (tgt := 2542) dL_law_2257 (by decide) ?_
    refine e_mask [true, true, true, true, true, true, false, false, false] ?_
    refine e_wid (k + 10) (n + 11813) (by show k + 1 ≤ _; omega) (by show n + 6 ≤ _; omega) ?_
    exact K S h2 ⟨hM2.1, RC_99 hM2.2 qR, hI5, ⟨(hM2.2 6 (by decide)).1.trans q6.1, (hM2.2 6 (by decide)).2.1.trans q6.2⟩, ⟨((hM2.2 7 (by decide)).1.trans (qf 7 (by decide)).1).trans h7.1, ((hM2.2 7 (by decide)).2.1.trans (qf 7 (by decide)).2.1).trans h7.2⟩, by omega⟩
  · cases e1
    have qR := (qc.resolve_left (fun z => by omega)).2
    have hI5 : I4 S (B + 2000) := I4_le (by omega) hI4
    refine e_istore dL_law_2227 (Nat.le_of_ble_eq_true rfl) rfl rfl ?_
    refine e_aload_n dL_law_2229 rfl rfl ?_
    refine e_callV (As := []) (cb := 10) dL_law_2230 moX9_thrown mvX9_thrown mlL_140 (by decide) rfl hM2.1.1 rfl (Nat.le_of_ble_eq_true rfl) ⟨Nat.le_of_ble_eq_true rfl, Nat.le_of_ble_eq_true rfl, by show k + 1 ≤ 603072; omega, by show n + 6 ≤ 7207018; omega⟩ (c_X9_thrown hl hM2.1) (fun E h9 q => by cases q.1) (fun v9 h9 q => ?_)
    obtain ⟨e1, e2⟩ := q
    cases e1
    rw [e2]
    clear e2 h9
    refine e_G (fun G2 => ?_)
    have z9 : zin kk := by rw [← t9]; exact G2.1 _ _
    rw [t9]
    refine e_iload dL_law_2233 rfl ?_
    refine e_icmp_eq (tgt := 2240) dL_law_2235 (by decide) z9 z9 (fun _ => ?_) (fun c => absurd rfl c)
    refine e_iload dL_law_2240 rfl ?_
    refine e_if_ne (tgt := 2257) dL_law_2242 (by decide) z9 (fun _ => ?_) (fun c => absurd c k0)
    refine e_goto (tgt := 2542) dL_law_2257 (by decide) ?_
    refine e_mask [true, true, true, true, true, true, false, false, false] ?_
    refine e_wid (k + 10) (n + 11813) (by show k + 1 ≤ _; omega) (by show n + 6 ≤ _; omega) ?_
    exact K S h2 ⟨hM2.1, RC_99 hM2.2 qR, hI5, ⟨(hM2.2 6 (by decide)).1.trans q6.1, (hM2.2 6 (by decide)).2.1.trans q6.2⟩, ⟨((hM2.2 7 (by decide)).1.trans (qf 7 (by decide)).1).trans h7.1, ((hM2.2 7 (by decide)).2.1.trans (qf 7 (by decide)).2.1).trans h7.2⟩, by omega⟩
set_option maxHeartbeats 4000000 in
set_option maxRecDepth 100000 in
theorem cs_record {l : Launch} (hl : l.stackTraces = false) (hG : GMore l) {L : Nat} {f : Nat → Int32} {S : S9} {h : zH} {B i : Int} {k n : Nat} (i0 : 0 ≤ i) (i8 : i + 8 ≤ L) (hk : k + 10 ≤ 603072) (hn : n + 11813 ≤ 7207018) (hB9 : B ≤ 800000000) (hL0 : LI S B h) (K : ∀ S' h', LI S' (B + 2000) h' → AW l (MLW L f) QW (k + 10) (n + 11813) 2542 [zY, zR (some 2), zR (some 99), zR (some 6), zR (some 7), zI i, zX, zX, zX] [] h') : AW l (MLW L f) QW k n 2260 [zY, zR (some 2), zR (some 99), zR (some 6), zR (some 7), zI i, zX, zX, zX] [] h := by
  obtain ⟨hM, hR, hI4, h6, h7, hB0⟩ := hL0
  refine e_G (fun G => ?_)
  have hI := II_of G hM hI4
  have hN : IN S := hI4.1.1
  have hIW : IW S := hI4.1.2.1
  have hIO : IO S := hI4.1.2.2.1
  have hIC : IC S := hI4.1.2.2.2.1
  have hIK : IK S := hI4.1.2.2.2.2
  obtain ⟨n1, n2, n3, n4, n5⟩ := id hN
  obtain ⟨s, hes⟩ : ∃ z : Int, z = (f (i + 1).toNat).toInt := ⟨_, rfl⟩
  have hsz : zin s := by rw [hes]; exact ⟨Int32.le_toInt _, Int32.toInt_lt _⟩
  obtain ⟨kk, hkk⟩ : ∃ kk : Int, kk = (if ¬ isS S s then 1 else 0) := ⟨_, rfl⟩
  have hc1 := c_L_record hl hR hI h6 s hsz
  rw [← hkk] at hc1
  refine e_aload_n dL_law_2260 rfl rfl ?_
  refine e_aloadY dL_law_2261 rfl rfl ?_
  refine e_iload dL_law_2262 rfl ?_
  refine e_iconst dL_law_2264 ?_
  refine e_iadd dL_law_2265 ?_
  refine e_sld (L := L) (f := f) rfl dL_law_2266 (by omega) (by omega) (fun y9 => ?_)
  rw [← hes] at y9 ⊢
  refine e_aload_n dL_law_2267 rfl rfl ?_
  refine e_callH (As := [zR _, zI _, zR _]) dL_law_2268 hoL_record mlL_237 rfl (Nat.le_of_ble_eq_true rfl) ⟨Nat.le_of_ble_eq_true rfl, Nat.le_of_ble_eq_true rfl, by show k + 7 ≤ 603072; omega, by show n + 11813 ≤ 7207018; omega⟩ hc1 (fun E h1 q => (QL_inl q).elim) (fun v9 h1 q => ?_)
  obtain ⟨e1, qf, q6, qc⟩ := q
  cases e1
  refine e_istore dL_law_2271 (Nat.le_of_ble_eq_true rfl) rfl rfl ?_
  have hM1 := RM_fr (fun m m0 m1 => qf m (by omega)) hM
  have hc2 : zC l MX9_record [zR (some 99), zI s] h1 (QM S h1 kk (zI 0) (zI (S 32 s)) (recB S s)) := by
    rw [hkk]
    exact c_X9_record hl hM1 hN s hsz
  refine e_aload_n dL_law_2273 rfl rfl ?_
  refine e_aloadY dL_law_2274 rfl rfl ?_
  refine e_iload dL_law_2275 rfl ?_
  refine e_iconst dL_law_2277 ?_
  refine e_iadd dL_law_2278 ?_
  refine e_sld (L := L) (f := f) rfl dL_law_2279 (by omega) (by omega) (fun y9 => ?_)
  rw [← hes] at y9 ⊢
  refine e_callV (As := [zI _]) (cb := 10) dL_law_2280 moX9_record mvX9_record mlL_239 (by decide) rfl hM1.1 rfl (Nat.le_of_ble_eq_true rfl) ⟨Nat.le_of_ble_eq_true rfl, Nat.le_of_ble_eq_true rfl, by show k + 7 ≤ 603072; omega, by show n + 11813 ≤ 7207018; omega⟩ hc2 (fun E h2 q => by rcases q.2 with ⟨-, z, -⟩ | ⟨-, z, -⟩ <;> cases z) (fun v9 h2 q => ?_)
  obtain ⟨t9, q2⟩ := q
  have hkn : 0 ≤ kk := by rcases qc with z | z <;> omega
  rcases q2 with ⟨k0, e1, hM2⟩ | ⟨k0, e1, hM2⟩
  · cases e1
    obtain ⟨-, qw, qR⟩ := qc.resolve_right (fun z => by omega)
    have hk0 := hkk.symm.trans k0
    obtain ⟨p1, hk1⟩ := kz hk0 (by decide)
    have hI5 : I4 (recB S s) (B + 2000) := I4_le (by omega) (I4_record hI4 (by omega))
    refine e_istore dL_law_2283 (Nat.le_of_ble_eq_true rfl) rfl rfl ?_
    refine e_aload_n dL_law_2285 rfl rfl ?_
    refine e_callV (As := []) (cb := 10) dL_law_2286 moX9_thrown mvX9_thrown mlL_140 (by decide) rfl hM2.1.1 rfl (Nat.le_of_ble_eq_true rfl) ⟨Nat.le_of_ble_eq_true rfl, Nat.le_of_ble_eq_true rfl, by show k + 7 ≤ 603072; omega, by show n + 11813 ≤ 7207018; omega⟩ (c_X9_thrown hl hM2.1) (fun E h9 q => by cases q.1) (fun v9 h9 q => ?_)
    obtain ⟨e1, e2⟩ := q
    cases e1
    rw [e2]
    clear e2 h9
    refine e_G (fun G2 => ?_)
    have z9 : zin kk := by rw [← t9]; exact G2.1 _ _
    rw [t9]
    refine e_iload dL_law_2289 rfl ?_
    refine e_icmp_eq (tgt := 2296) dL_law_2291 (by decide) z9 z9 (fun _ => ?_) (fun c => absurd rfl c)
    refine e_iload dL_law_2296 rfl ?_
    refine e_if_ne (tgt := 2313) dL_law_2298 (by decide) z9 (fun c => absurd k0 c) (fun _ => ?_)
    refine e_aload_n dL_law_2301 rfl rfl ?_
    refine e_iconst dL_law_2302 ?_
    refine e_lald dL_law_2303 ((hM2.2 6 (by decide)).1.trans q6.1) (by decide) (by rw [(hM2.2 6 (by decide)).2.1, q6.2]; decide) (((hM2.2 6 (by decide)).2.2.2.2.2.2.2.1 0).trans qw) ?_
    refine e_iload dL_law_2304 rfl ?_
    refine e_i2lw dL_law_2306 ?_
    refine e_lcmp_eq dL_law_2307 rfl ?_
    refine e_if_eq (tgt := 2313) dL_law_2308 (by decide) (by decide) (fun _ => ?_) (fun c => absurd rfl c)
    refine e_goto (tgt := 2542) dL_law_2313 (by decide) ?_
    refine e_mask [true, true, true, true, true, true, false, false, false] ?_
    refine e_wid (k + 10) (n + 11813) (by show k + 7 ≤ _; omega) (by show n + 11813 ≤ _; omega) ?_
    exact K (recB S s) h2 ⟨hM2.1, RC_99 hM2.2 qR, hI5, ⟨(hM2.2 6 (by decide)).1.trans q6.1, (hM2.2 6 (by decide)).2.1.trans q6.2⟩, ⟨((hM2.2 7 (by decide)).1.trans (qf 7 (by decide)).1).trans h7.1, ((hM2.2 7 (by decide)).2.1.trans (qf 7 (by decide)).2.1).trans h7.2⟩, by omega⟩
  · cases e1
    have qR := (qc.resolve_left (fun z => by omega)).2
    have hI5 : I4 S (B + 2000) := I4_le (by omega) hI4
    refine e_istore dL_law_2283 (Nat.le_of_ble_eq_true rfl) rfl rfl ?_
    refine e_aload_n dL_law_2285 rfl rfl ?_
    refine e_callV (As := []) (cb := 10) dL_law_2286 moX9_thrown mvX9_thrown mlL_140 (by decide) rfl hM2.1.1 rfl (Nat.le_of_ble_eq_true rfl) ⟨Nat.le_of_ble_eq_true rfl, Nat.le_of_ble_eq_true rfl, by show k + 7 ≤ 603072; omega, by show n + 11813 ≤ 7207018; omega⟩ (c_X9_thrown hl hM2.1) (fun E h9 q => by cases q.1) (fun v9 h9 q => ?_)
    obtain ⟨e1, e2⟩ := q
    cases e1
    rw [e2]
    clear e2 h9
    refine e_G (fun G2 => ?_)
    have z9 : zin kk := by rw [← t9]; exact G2.1 _ _
    rw [t9]
    refine e_iload dL_law_2289 rfl ?_
    refine e_icmp_eq (tgt := 2296) dL_law_2291 (by decide) z9 z9 (fun _ => ?_) (fun c => absurd rfl c)
    refine e_iload dL_law_2296 rfl ?_
    refine e_if_ne (tgt := 2313) dL_law_2298 (by decide) z9 (fun _ => ?_) (fun c => absurd c k0)
    refine e_goto (tgt := 2542) dL_law_2313 (by decide) ?_
    refine e_mask [true, true, true, true, true, true, false, false, false] ?_
    refine e_wid (k + 10) (n + 11813) (by show k + 7 ≤ _; omega) (by show n + 11813 ≤ _; omega) ?_
    exact K S h2 ⟨hM2.1, RC_99 hM2.2 qR, hI5, ⟨(hM2.2 6 (by decide)).1.trans q6.1, (hM2.2 6 (by decide)).2.1.trans q6.2⟩, ⟨((hM2.2 7 (by decide)).1.trans (qf 7 (by decide)).1).trans h7.1, ((hM2.2 7 (by decide)).2.1.trans (qf 7 (by decide)).2.1).trans h7.2⟩, by omega⟩
set_option maxHeartbeats 4000000 in
set_option maxRecDepth 100000 in
theorem cs_played {l : Launch} (hl : l.stackTraces = false) (hG : GMore l) {L : Nat} {f : Nat → Int32} {S : S9} {h : zH} {B i : Int} {k n : Nat} (i0 : 0 ≤ i) (i8 : i + 8 ≤ L) (hk : k + 10 ≤ 603072) (hn : n + 11813 ≤ 7207018) (hB9 : B ≤ 800000000) (hL0 : LI S B h) (K : ∀ S' h', LI S' (B + 2000) h' → AW l (MLW L f) QW (k + 10) (n + 11813) 2542 [zY, zR (some 2), zR (some 99), zR (some 6), zR (some 7), zI i, zX, zX, zX] [] h') : AW l (MLW L f) QW k n 2316 [zY, zR (some 2), zR (some 99), zR (some 6), zR (some 7), zI i, zX, zX, zX] [] h := by
  obtain ⟨hM, hR, hI4, h6, h7, hB0⟩ := hL0
  refine e_G (fun G => ?_)
  have hI := II_of G hM hI4
  have hN : IN S := hI4.1.1
  have hIW : IW S := hI4.1.2.1
  have hIO : IO S := hI4.1.2.2.1
  have hIC : IC S := hI4.1.2.2.2.1
  have hIK : IK S := hI4.1.2.2.2.2
  obtain ⟨n1, n2, n3, n4, n5⟩ := id hN
  obtain ⟨s, hes⟩ : ∃ z : Int, z = (f (i + 1).toNat).toInt := ⟨_, rfl⟩
  have hsz : zin s := by rw [hes]; exact ⟨Int32.le_toInt _, Int32.toInt_lt _⟩
  obtain ⟨t, het⟩ : ∃ z : Int, z = (f (i + 2).toNat).toInt := ⟨_, rfl⟩
  have htz : zin t := by rw [het]; exact ⟨Int32.le_toInt _, Int32.toInt_lt _⟩
  obtain ⟨x, hex⟩ : ∃ z : Int, z = (f (i + 3).toNat).toInt := ⟨_, rfl⟩
  have hxz : zin x := by rw [hex]; exact ⟨Int32.le_toInt _, Int32.toInt_lt _⟩
  obtain ⟨y, hey⟩ : ∃ z : Int, z = (f (i + 4).toNat).toInt := ⟨_, rfl⟩
  have hyz : zin y := by rw [hey]; exact ⟨Int32.le_toInt _, Int32.toInt_lt _⟩
  obtain ⟨kk, hkk⟩ : ∃ kk : Int, kk = (if ¬ (isS S s ∧ isXY x y) then 1 else if ¬ (1 ≤ t ∧ t ≤ S 32 s) then 2 else 0) := ⟨_, rfl⟩
  have hc1 := c_L_played hl hR hI h6 s hsz t htz x hxz y hyz
  rw [← hkk] at hc1
  refine e_aload_n dL_law_2316 rfl rfl ?_
  refine e_aloadY dL_law_2317 rfl rfl ?_
  refine e_iload dL_law_2318 rfl ?_
  refine e_iconst dL_law_2320 ?_
  refine e_iadd dL_law_2321 ?_
  refine e_sld (L := L) (f := f) rfl dL_law_2322 (by omega) (by omega) (fun y9 => ?_)
  rw [← hes] at y9 ⊢
  refine e_aloadY dL_law_2323 rfl rfl ?_
  refine e_iload dL_law_2324 rfl ?_
  refine e_iconst dL_law_2326 ?_
  refine e_iadd dL_law_2327 ?_
  refine e_sld (L := L) (f := f) rfl dL_law_2328 (by omega) (by omega) (fun y9 => ?_)
  rw [← het] at y9 ⊢
  refine e_aloadY dL_law_2329 rfl rfl ?_
  refine e_iload dL_law_2330 rfl ?_
  refine e_iconst dL_law_2332 ?_
  refine e_iadd dL_law_2333 ?_
  refine e_sld (L := L) (f := f) rfl dL_law_2334 (by omega) (by omega) (fun y9 => ?_)
  rw [← hex] at y9 ⊢
  refine e_aloadY dL_law_2335 rfl rfl ?_
  refine e_iload dL_law_2336 rfl ?_
  refine e_iconst dL_law_2338 ?_
  refine e_iadd dL_law_2339 ?_
  refine e_sld (L := L) (f := f) rfl dL_law_2340 (by omega) (by omega) (fun y9 => ?_)
  rw [← hey] at y9 ⊢
  refine e_aload_n dL_law_2341 rfl rfl ?_
  refine e_callH (As := [zR _, zI _, zI _, zI _, zI _, zR _]) dL_law_2342 hoL_played mlL_240 rfl (Nat.le_of_ble_eq_true rfl) ⟨Nat.le_of_ble_eq_true rfl, Nat.le_of_ble_eq_true rfl, by show k + 3 ≤ 603072; omega, by show n + 18 ≤ 7207018; omega⟩ hc1 (fun E h1 q => (QL_inl q).elim) (fun v9 h1 q => ?_)
  obtain ⟨e1, qf, q6, qc⟩ := q
  cases e1
  refine e_istore dL_law_2345 (Nat.le_of_ble_eq_true rfl) rfl rfl ?_
  have hM1 := RM_fr (fun m m0 m1 => qf m (by omega)) hM
  have hc2 : zC l MX9_played [zR (some 99), zI s, zI t, zI x, zI y] h1 (QM S h1 kk (zI 0) (zI (S 34 ((60 * s + (t - 1)) * 96 + (y * 12 + x)))) S) := by
    rw [hkk]
    exact c_X9_played hl hM1 hN s t x y hsz htz hxz hyz (fun s s0 s4 => by have := hI.2.2.1.2.1 s s0 s4; omega)
  refine e_aload_n dL_law_2347 rfl rfl ?_
  refine e_aloadY dL_law_2348 rfl rfl ?_
  refine e_iload dL_law_2349 rfl ?_
  refine e_iconst dL_law_2351 ?_
  refine e_iadd dL_law_2352 ?_
  refine e_sld (L := L) (f := f) rfl dL_law_2353 (by omega) (by omega) (fun y9 => ?_)
  rw [← hes] at y9 ⊢
  refine e_aloadY dL_law_2354 rfl rfl ?_
  refine e_iload dL_law_2355 rfl ?_
  refine e_iconst dL_law_2357 ?_
  refine e_iadd dL_law_2358 ?_
  refine e_sld (L := L) (f := f) rfl dL_law_2359 (by omega) (by omega) (fun y9 => ?_)
  rw [← het] at y9 ⊢
  refine e_aloadY dL_law_2360 rfl rfl ?_
  refine e_iload dL_law_2361 rfl ?_
  refine e_iconst dL_law_2363 ?_
  refine e_iadd dL_law_2364 ?_
  refine e_sld (L := L) (f := f) rfl dL_law_2365 (by omega) (by omega) (fun y9 => ?_)
  rw [← hex] at y9 ⊢
  refine e_aloadY dL_law_2366 rfl rfl ?_
  refine e_iload dL_law_2367 rfl ?_
  refine e_iconst dL_law_2369 ?_
  refine e_iadd dL_law_2370 ?_
  refine e_sld (L := L) (f := f) rfl dL_law_2371 (by omega) (by omega) (fun y9 => ?_)
  rw [← hey] at y9 ⊢
  refine e_callV (As := [zI _, zI _, zI _, zI _]) (cb := 10) dL_law_2372 moX9_played mvX9_played mlL_242 (by decide) rfl hM1.1 rfl (Nat.le_of_ble_eq_true rfl) ⟨Nat.le_of_ble_eq_true rfl, Nat.le_of_ble_eq_true rfl, by show k + 3 ≤ 603072; omega, by show n + 18 ≤ 7207018; omega⟩ hc2 (fun E h2 q => by rcases q.2 with ⟨-, z, -⟩ | ⟨-, z, -⟩ <;> cases z) (fun v9 h2 q => ?_)
  obtain ⟨t9, q2⟩ := q
  have hkn : 0 ≤ kk := by rcases qc with z | z <;> omega
  rcases q2 with ⟨k0, e1, hM2⟩ | ⟨k0, e1, hM2⟩
  · cases e1
    obtain ⟨-, qw, qR⟩ := qc.resolve_right (fun z => by omega)
    have hk0 := hkk.symm.trans k0
    obtain ⟨p1, hk1⟩ := kz hk0 (by decide)
    obtain ⟨p2, hk2⟩ := kz hk1 (by decide)
    have hI5 : I4 S (B + 2000) := I4_le (by omega) (hI4)
    refine e_istore dL_law_2375 (Nat.le_of_ble_eq_true rfl) rfl rfl ?_
    refine e_aload_n dL_law_2377 rfl rfl ?_
    refine e_callV (As := []) (cb := 10) dL_law_2378 moX9_thrown mvX9_thrown mlL_140 (by decide) rfl hM2.1.1 rfl (Nat.le_of_ble_eq_true rfl) ⟨Nat.le_of_ble_eq_true rfl, Nat.le_of_ble_eq_true rfl, by show k + 3 ≤ 603072; omega, by show n + 18 ≤ 7207018; omega⟩ (c_X9_thrown hl hM2.1) (fun E h9 q => by cases q.1) (fun v9 h9 q => ?_)
    obtain ⟨e1, e2⟩ := q
    cases e1
    rw [e2]
    clear e2 h9
    refine e_G (fun G2 => ?_)
    have z9 : zin kk := by rw [← t9]; exact G2.1 _ _
    rw [t9]
    refine e_iload dL_law_2381 rfl ?_
    refine e_icmp_eq (tgt := 2388) dL_law_2383 (by decide) z9 z9 (fun _ => ?_) (fun c => absurd rfl c)
    refine e_iload dL_law_2388 rfl ?_
    refine e_if_ne (tgt := 2405) dL_law_2390 (by decide) z9 (fun c => absurd k0 c) (fun _ => ?_)
    refine e_aload_n dL_law_2393 rfl rfl ?_
    refine e_iconst dL_law_2394 ?_
    refine e_lald dL_law_2395 ((hM2.2 6 (by decide)).1.trans q6.1) (by decide) (by rw [(hM2.2 6 (by decide)).2.1, q6.2]; decide) (((hM2.2 6 (by decide)).2.2.2.2.2.2.2.1 0).trans qw) ?_
    refine e_iload dL_law_2396 rfl ?_
    refine e_i2lw dL_law_2398 ?_
    refine e_lcmp_eq dL_law_2399 rfl ?_
    refine e_if_eq (tgt := 2405) dL_law_2400 (by decide) (by decide) (fun _ => ?_) (fun c => absurd rfl c)
    refine e_goto (tgt := 2542) dL_law_2405 (by decide) ?_
    refine e_mask [true, true, true, true, true, true, false, false, false] ?_
    refine e_wid (k + 10) (n + 11813) (by show k + 3 ≤ _; omega) (by show n + 18 ≤ _; omega) ?_
    exact K S h2 ⟨hM2.1, RC_99 hM2.2 qR, hI5, ⟨(hM2.2 6 (by decide)).1.trans q6.1, (hM2.2 6 (by decide)).2.1.trans q6.2⟩, ⟨((hM2.2 7 (by decide)).1.trans (qf 7 (by decide)).1).trans h7.1, ((hM2.2 7 (by decide)).2.1.trans (qf 7 (by decide)).2.1).trans h7.2⟩, by omega⟩
  · cases e1
    have qR := (qc.resolve_left (fun z => by omega)).2
    have hI5 : I4 S (B + 2000) := I4_le (by omega) hI4
    refine e_istore dL_law_2375 (Nat.le_of_ble_eq_true rfl) rfl rfl ?_
    refine e_aload_n dL_law_2377 rfl rfl ?_
    refine e_callV (As := []) (cb := 10) dL_law_2378 moX9_thrown mvX9_thrown mlL_140 (by decide) rfl hM2.1.1 rfl (Nat.le_of_ble_eq_true rfl) ⟨Nat.le_of_ble_eq_true rfl, Nat.le_of_ble_eq_true rfl, by show k + 3 ≤ 603072; omega, by show n + 18 ≤ 7207018; omega⟩ (c_X9_thrown hl hM2.1) (fun E h9 q => by cases q.1) (fun v9 h9 q => ?_)
    obtain ⟨e1, e2⟩ := q
    cases e1
    rw [e2]
    clear e2 h9
    refine e_G (fun G2 => ?_)
    have z9 : zin kk := by rw [← t9]; exact G2.1 _ _
    rw [t9]
    refine e_iload dL_law_2381 rfl ?_
    refine e_icmp_eq (tgt := 2388) dL_law_2383 (by decide) z9 z9 (fun _ => ?_) (fun c => absurd rfl c)
    refine e_iload dL_law_2388 rfl ?_
    refine e_if_ne (tgt := 2405) dL_law_2390 (by decide) z9 (fun _ => ?_) (fun c => absurd c k0)
    refine e_goto (tgt := 2542) dL_law_2405 (by decide) ?_
    refine e_mask [true, true, true, true, true, true, false, false, false] ?_
    refine e_wid (k + 10) (n + 11813) (by show k + 3 ≤ _; omega) (by show n + 18 ≤ _; omega) ?_
    exact K S h2 ⟨hM2.1, RC_99 hM2.2 qR, hI5, ⟨(hM2.2 6 (by decide)).1.trans q6.1, (hM2.2 6 (by decide)).2.1.trans q6.2⟩, ⟨((hM2.2 7 (by decide)).1.trans (qf 7 (by decide)).1).trans h7.1, ((hM2.2 7 (by decide)).2.1.trans (qf 7 (by decide)).2.1).trans h7.2⟩, by omega⟩
set_option maxHeartbeats 4000000 in
set_option maxRecDepth 100000 in
theorem cs_noted {l : Launch} (hl : l.stackTraces = false) (hG : GMore l) {L : Nat} {f : Nat → Int32} {S : S9} {h : zH} {B i : Int} {k n : Nat} (i0 : 0 ≤ i) (i8 : i + 8 ≤ L) (hk : k + 10 ≤ 603072) (hn : n + 11813 ≤ 7207018) (hB9 : B ≤ 800000000) (hL0 : LI S B h) (K : ∀ S' h', LI S' (B + 2000) h' → AW l (MLW L f) QW (k + 10) (n + 11813) 2542 [zY, zR (some 2), zR (some 99), zR (some 6), zR (some 7), zI i, zX, zX, zX] [] h') : AW l (MLW L f) QW k n 2408 [zY, zR (some 2), zR (some 99), zR (some 6), zR (some 7), zI i, zX, zX, zX] [] h := by
  obtain ⟨hM, hR, hI4, h6, h7, hB0⟩ := hL0
  refine e_G (fun G => ?_)
  have hI := II_of G hM hI4
  have hN : IN S := hI4.1.1
  have hIW : IW S := hI4.1.2.1
  have hIO : IO S := hI4.1.2.2.1
  have hIC : IC S := hI4.1.2.2.2.1
  have hIK : IK S := hI4.1.2.2.2.2
  obtain ⟨n1, n2, n3, n4, n5⟩ := id hN
  obtain ⟨s, hes⟩ : ∃ z : Int, z = (f (i + 1).toNat).toInt := ⟨_, rfl⟩
  have hsz : zin s := by rw [hes]; exact ⟨Int32.le_toInt _, Int32.toInt_lt _⟩
  obtain ⟨kk, hkk⟩ : ∃ kk : Int, kk = (if ¬ isS S s then 1 else if ¬ S 31 s = 1 then 2 else 0) := ⟨_, rfl⟩
  have hc1 := c_L_noted hl hR hI h6 s hsz
  rw [← hkk] at hc1
  refine e_aload_n dL_law_2408 rfl rfl ?_
  refine e_aloadY dL_law_2409 rfl rfl ?_
  refine e_iload dL_law_2410 rfl ?_
  refine e_iconst dL_law_2412 ?_
  refine e_iadd dL_law_2413 ?_
  refine e_sld (L := L) (f := f) rfl dL_law_2414 (by omega) (by omega) (fun y9 => ?_)
  rw [← hes] at y9 ⊢
  refine e_aload_n dL_law_2415 rfl rfl ?_
  refine e_callH (As := [zR _, zI _, zR _]) dL_law_2416 hoL_noted mlL_243 rfl (Nat.le_of_ble_eq_true rfl) ⟨Nat.le_of_ble_eq_true rfl, Nat.le_of_ble_eq_true rfl, by show k + 2 ≤ 603072; omega, by show n + 12 ≤ 7207018; omega⟩ hc1 (fun E h1 q => (QL_inl q).elim) (fun v9 h1 q => ?_)
  obtain ⟨e1, qf, q6, qc⟩ := q
  cases e1
  refine e_istore dL_law_2419 (Nat.le_of_ble_eq_true rfl) rfl rfl ?_
  have hM1 := RM_fr (fun m m0 m1 => qf m (by omega)) hM
  have hc2 : zC l MX9_noted [zR (some 99), zI s] h1 (QM S h1 kk (zI 0) (zI (S 33 s)) S) := by
    rw [hkk]
    exact c_X9_noted hl hM1 hN s hsz
  refine e_aload_n dL_law_2421 rfl rfl ?_
  refine e_aloadY dL_law_2422 rfl rfl ?_
  refine e_iload dL_law_2423 rfl ?_
  refine e_iconst dL_law_2425 ?_
  refine e_iadd dL_law_2426 ?_
  refine e_sld (L := L) (f := f) rfl dL_law_2427 (by omega) (by omega) (fun y9 => ?_)
  rw [← hes] at y9 ⊢
  refine e_callV (As := [zI _]) (cb := 10) dL_law_2428 moX9_noted mvX9_noted mlL_245 (by decide) rfl hM1.1 rfl (Nat.le_of_ble_eq_true rfl) ⟨Nat.le_of_ble_eq_true rfl, Nat.le_of_ble_eq_true rfl, by show k + 2 ≤ 603072; omega, by show n + 12 ≤ 7207018; omega⟩ hc2 (fun E h2 q => by rcases q.2 with ⟨-, z, -⟩ | ⟨-, z, -⟩ <;> cases z) (fun v9 h2 q => ?_)
  obtain ⟨t9, q2⟩ := q
  have hkn : 0 ≤ kk := by rcases qc with z | z <;> omega
  rcases q2 with ⟨k0, e1, hM2⟩ | ⟨k0, e1, hM2⟩
  · cases e1
    obtain ⟨-, qw, qR⟩ := qc.resolve_right (fun z => by omega)
    have hk0 := hkk.symm.trans k0
    obtain ⟨p1, hk1⟩ := kz hk0 (by decide)
    obtain ⟨p2, hk2⟩ := kz hk1 (by decide)
    have hI5 : I4 S (B + 2000) := I4_le (by omega) (hI4)
    refine e_istore dL_law_2431 (Nat.le_of_ble_eq_true rfl) rfl rfl ?_
    refine e_aload_n dL_law_2433 rfl rfl ?_
    refine e_callV (As := []) (cb := 10) dL_law_2434 moX9_thrown mvX9_thrown mlL_140 (by decide) rfl hM2.1.1 rfl (Nat.le_of_ble_eq_true rfl) ⟨Nat.le_of_ble_eq_true rfl, Nat.le_of_ble_eq_true rfl, by show k + 2 ≤ 603072; omega, by show n + 12 ≤ 7207018; omega⟩ (c_X9_thrown hl hM2.1) (fun E h9 q => by cases q.1) (fun v9 h9 q => ?_)
    obtain ⟨e1, e2⟩ := q
    cases e1
    rw [e2]
    clear e2 h9
    refine e_G (fun G2 => ?_)
    have z9 : zin kk := by rw [← t9]; exact G2.1 _ _
    rw [t9]
    refine e_iload dL_law_2437 rfl ?_
    refine e_icmp_eq (tgt := 2444) dL_law_2439 (by decide) z9 z9 (fun _ => ?_) (fun c => absurd rfl c)
    refine e_iload dL_law_2444 rfl ?_
    refine e_if_ne (tgt := 2461) dL_law_2446 (by decide) z9 (fun c => absurd k0 c) (fun _ => ?_)
    refine e_aload_n dL_law_2449 rfl rfl ?_
    refine e_iconst dL_law_2450 ?_
    refine e_lald dL_law_2451 ((hM2.2 6 (by decide)).1.trans q6.1) (by decide) (by rw [(hM2.2 6 (by decide)).2.1, q6.2]; decide) (((hM2.2 6 (by decide)).2.2.2.2.2.2.2.1 0).trans qw) ?_
    refine e_iload dL_law_2452 rfl ?_
    refine e_i2lw dL_law_2454 ?_
    refine e_lcmp_eq dL_law_2455 rfl ?_
    refine e_if_eq (tgt := 2461) dL_law_2456 (by decide) (by decide) (fun _ => ?_) (fun c => absurd rfl c)
    refine e_goto (tgt := 2542) dL_law_2461 (by decide) ?_
    refine e_mask [true, true, true, true, true, true, false, false, false] ?_
    refine e_wid (k + 10) (n + 11813) (by show k + 2 ≤ _; omega) (by show n + 12 ≤ _; omega) ?_
    exact K S h2 ⟨hM2.1, RC_99 hM2.2 qR, hI5, ⟨(hM2.2 6 (by decide)).1.trans q6.1, (hM2.2 6 (by decide)).2.1.trans q6.2⟩, ⟨((hM2.2 7 (by decide)).1.trans (qf 7 (by decide)).1).trans h7.1, ((hM2.2 7 (by decide)).2.1.trans (qf 7 (by decide)).2.1).trans h7.2⟩, by omega⟩
  · cases e1
    have qR := (qc.resolve_left (fun z => by omega)).2
    have hI5 : I4 S (B + 2000) := I4_le (by omega) hI4
    refine e_istore dL_law_2431 (Nat.le_of_ble_eq_true rfl) rfl rfl ?_
    refine e_aload_n dL_law_2433 rfl rfl ?_
    refine e_callV (As := []) (cb := 10) dL_law_2434 moX9_thrown mvX9_thrown mlL_140 (by decide) rfl hM2.1.1 rfl (Nat.le_of_ble_eq_true rfl) ⟨Nat.le_of_ble_eq_true rfl, Nat.le_of_ble_eq_true rfl, by show k + 2 ≤ 603072; omega, by show n + 12 ≤ 7207018; omega⟩ (c_X9_thrown hl hM2.1) (fun E h9 q => by cases q.1) (fun v9 h9 q => ?_)
    obtain ⟨e1, e2⟩ := q
    cases e1
    rw [e2]
    clear e2 h9
    refine e_G (fun G2 => ?_)
    have z9 : zin kk := by rw [← t9]; exact G2.1 _ _
    rw [t9]
    refine e_iload dL_law_2437 rfl ?_
    refine e_icmp_eq (tgt := 2444) dL_law_2439 (by decide) z9 z9 (fun _ => ?_) (fun c => absurd rfl c)
    refine e_iload dL_law_2444 rfl ?_
    refine e_if_ne (tgt := 2461) dL_law_2446 (by decide) z9 (fun _ => ?_) (fun c => absurd c k0)
    refine e_goto (tgt := 2542) dL_law_2461 (by decide) ?_
    refine e_mask [true, true, true, true, true, true, false, false, false] ?_
    refine e_wid (k + 10) (n + 11813) (by show k + 2 ≤ _; omega) (by show n + 12 ≤ _; omega) ?_
    exact K S h2 ⟨hM2.1, RC_99 hM2.2 qR, hI5, ⟨(hM2.2 6 (by decide)).1.trans q6.1, (hM2.2 6 (by decide)).2.1.trans q6.2⟩, ⟨((hM2.2 7 (by decide)).1.trans (qf 7 (by decide)).1).trans h7.1, ((hM2.2 7 (by decide)).2.1.trans (qf 7 (by decide)).2.1).trans h7.2⟩, by omega⟩
set_option maxHeartbeats 4000000 in
set_option maxRecDepth 100000 in
theorem cs_meanBehind {l : Launch} (hl : l.stackTraces = false) (hG : GMore l) {L : Nat} {f : Nat → Int32} {S : S9} {h : zH} {B i : Int} {k n : Nat} (i0 : 0 ≤ i) (i8 : i + 8 ≤ L) (hk : k + 10 ≤ 603072) (hn : n + 11813 ≤ 7207018) (hB9 : B ≤ 800000000) (hL0 : LI S B h) (K : ∀ S' h', LI S' (B + 2000) h' → AW l (MLW L f) QW (k + 10) (n + 11813) 2542 [zY, zR (some 2), zR (some 99), zR (some 6), zR (some 7), zI i, zX, zX, zX] [] h') : AW l (MLW L f) QW k n 2464 [zY, zR (some 2), zR (some 99), zR (some 6), zR (some 7), zI i, zX, zX, zX] [] h := by
  obtain ⟨hM, hR, hI4, h6, h7, hB0⟩ := hL0
  refine e_G (fun G => ?_)
  have hI := II_of G hM hI4
  have hN : IN S := hI4.1.1
  have hIW : IW S := hI4.1.2.1
  have hIO : IO S := hI4.1.2.2.1
  have hIC : IC S := hI4.1.2.2.2.1
  have hIK : IK S := hI4.1.2.2.2.2
  obtain ⟨n1, n2, n3, n4, n5⟩ := id hN
  obtain ⟨kk, hkk⟩ : ∃ kk : Int, kk = (if S 2 0 = 0 then 1 else 0) := ⟨_, rfl⟩
  have hc1 := c_L_meanBehind hl hR hI h7  (by omega)
  rw [← hkk] at hc1
  refine e_aload_n dL_law_2464 rfl rfl ?_
  refine e_aload dL_law_2465 rfl ?_
  refine e_callH (As := [zR _, zR _]) dL_law_2467 hoL_meanBehind mlL_246 rfl (Nat.le_of_ble_eq_true rfl) ⟨Nat.le_of_ble_eq_true rfl, Nat.le_of_ble_eq_true rfl, by show k + 1 ≤ 603072; omega, by show n + 6 ≤ 7207018; omega⟩ hc1 (fun E h1 q => (QD_inl q).elim) (fun v9 h1 q => ?_)
  obtain ⟨e1, qf, q6, qc⟩ := q
  cases e1
  refine e_istore dL_law_2470 (Nat.le_of_ble_eq_true rfl) rfl rfl ?_
  have hM1 := RM_fr (fun m m0 m1 => qf m (by omega)) hM
  have hc2 : zC l MX9_meanBehind [zR (some 99)] h1 (QM S h1 kk (zD FP.dconst0) (zD (dsh (sumB S (S 2 0)) (S 2 0))) S) := by
    rw [hkk]
    exact c_X9_meanBehind hl hM1 hN hIW hIO hIC hIK
  refine e_aload_n dL_law_2472 rfl rfl ?_
  refine e_callV (As := []) (cb := 10) dL_law_2473 moX9_meanBehind mvX9_meanBehind mlL_249 (by decide) rfl hM1.1 rfl (Nat.le_of_ble_eq_true rfl) ⟨Nat.le_of_ble_eq_true rfl, Nat.le_of_ble_eq_true rfl, by show k + 1 ≤ 603072; omega, by show n + 6 ≤ 7207018; omega⟩ hc2 (fun E h2 q => by rcases q.2 with ⟨-, z, -⟩ | ⟨-, z, -⟩ <;> cases z) (fun v9 h2 q => ?_)
  obtain ⟨t9, q2⟩ := q
  have hkn : 0 ≤ kk := by rcases qc with z | z <;> omega
  rcases q2 with ⟨k0, e1, hM2⟩ | ⟨k0, e1, hM2⟩
  · cases e1
    obtain ⟨-, qw, qR⟩ := qc.resolve_right (fun z => by omega)
    have hk0 := hkk.symm.trans k0
    obtain ⟨p1, hk1⟩ := kz hk0 (by decide)
    have hI5 : I4 S (B + 2000) := I4_le (by omega) (hI4)
    refine e_dstore dL_law_2476 (Nat.le_of_ble_eq_true rfl) rfl rfl ?_
    refine e_aload_n dL_law_2478 rfl rfl ?_
    refine e_callV (As := []) (cb := 10) dL_law_2479 moX9_thrown mvX9_thrown mlL_140 (by decide) rfl hM2.1.1 rfl (Nat.le_of_ble_eq_true rfl) ⟨Nat.le_of_ble_eq_true rfl, Nat.le_of_ble_eq_true rfl, by show k + 1 ≤ 603072; omega, by show n + 6 ≤ 7207018; omega⟩ (c_X9_thrown hl hM2.1) (fun E h9 q => by cases q.1) (fun v9 h9 q => ?_)
    obtain ⟨e1, e2⟩ := q
    cases e1
    rw [e2]
    clear e2 h9
    refine e_G (fun G2 => ?_)
    have z9 : zin kk := by rw [← t9]; exact G2.1 _ _
    rw [t9]
    refine e_iload dL_law_2482 rfl ?_
    refine e_icmp_eq (tgt := 2489) dL_law_2484 (by decide) z9 z9 (fun _ => ?_) (fun c => absurd rfl c)
    refine e_iload dL_law_2489 rfl ?_
    refine e_if_ne (tgt := 2526) dL_law_2491 (by decide) z9 (fun c => absurd k0 c) (fun _ => ?_)
    refine e_aload dL_law_2494 rfl ?_
    refine e_iconst dL_law_2496 ?_
    refine e_dald dL_law_2497 ((hM2.2 7 (by decide)).1.trans q6.1) (by decide) (by rw [(hM2.2 7 (by decide)).2.1, q6.2]; decide) (((hM2.2 7 (by decide)).2.2.2.2.2.2.2.2 0).trans qw) ?_
    have b3 := sumB_in S n3 n4
    have nn := dsh_nn (a := sumB S (S 2 0)) (b := S 2 0) (by omega) (by omega) (by omega) (by omega)
    refine e_dload dL_law_2498 rfl ?_
    refine e_dcmp (z := 0) dL_law_2500 (by rw [dcmp_rf nn]; rfl) ?_
    refine e_if_eq (tgt := 2526) dL_law_2501 (by decide) (by decide) (fun _ => ?_) (fun c => absurd rfl c)
    refine e_goto (tgt := 2542) dL_law_2526 (by decide) ?_
    refine e_mask [true, true, true, true, true, true, false, false, false] ?_
    refine e_wid (k + 10) (n + 11813) (by show k + 1 ≤ _; omega) (by show n + 6 ≤ _; omega) ?_
    exact K S h2 ⟨hM2.1, RC_99 hM2.2 qR, hI5, ⟨((hM2.2 6 (by decide)).1.trans (qf 6 (by decide)).1).trans h6.1, ((hM2.2 6 (by decide)).2.1.trans (qf 6 (by decide)).2.1).trans h6.2⟩, ⟨(hM2.2 7 (by decide)).1.trans q6.1, (hM2.2 7 (by decide)).2.1.trans q6.2⟩, by omega⟩
  · cases e1
    have qR := (qc.resolve_left (fun z => by omega)).2
    have hI5 : I4 S (B + 2000) := I4_le (by omega) hI4
    refine e_dstore dL_law_2476 (Nat.le_of_ble_eq_true rfl) rfl rfl ?_
    refine e_aload_n dL_law_2478 rfl rfl ?_
    refine e_callV (As := []) (cb := 10) dL_law_2479 moX9_thrown mvX9_thrown mlL_140 (by decide) rfl hM2.1.1 rfl (Nat.le_of_ble_eq_true rfl) ⟨Nat.le_of_ble_eq_true rfl, Nat.le_of_ble_eq_true rfl, by show k + 1 ≤ 603072; omega, by show n + 6 ≤ 7207018; omega⟩ (c_X9_thrown hl hM2.1) (fun E h9 q => by cases q.1) (fun v9 h9 q => ?_)
    obtain ⟨e1, e2⟩ := q
    cases e1
    rw [e2]
    clear e2 h9
    refine e_G (fun G2 => ?_)
    have z9 : zin kk := by rw [← t9]; exact G2.1 _ _
    rw [t9]
    refine e_iload dL_law_2482 rfl ?_
    refine e_icmp_eq (tgt := 2489) dL_law_2484 (by decide) z9 z9 (fun _ => ?_) (fun c => absurd rfl c)
    refine e_iload dL_law_2489 rfl ?_
    refine e_if_ne (tgt := 2526) dL_law_2491 (by decide) z9 (fun _ => ?_) (fun c => absurd c k0)
    refine e_goto (tgt := 2542) dL_law_2526 (by decide) ?_
    refine e_mask [true, true, true, true, true, true, false, false, false] ?_
    refine e_wid (k + 10) (n + 11813) (by show k + 1 ≤ _; omega) (by show n + 6 ≤ _; omega) ?_
    exact K S h2 ⟨hM2.1, RC_99 hM2.2 qR, hI5, ⟨((hM2.2 6 (by decide)).1.trans (qf 6 (by decide)).1).trans h6.1, ((hM2.2 6 (by decide)).2.1.trans (qf 6 (by decide)).2.1).trans h6.2⟩, ⟨(hM2.2 7 (by decide)).1.trans q6.1, (hM2.2 7 (by decide)).2.1.trans q6.2⟩, by omega⟩
