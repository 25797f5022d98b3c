theorem e_callS {l : Launch} {Y Yc : zM} {Q Qc : zO → zH → Prop} {k n pc : Nat} {ls st As rest : List zV} {h : zH} {idx : Nat} (d : decode (zMc Y) pc = .ok (.invokestatic idx, 3)) (M : zMok Yc As.length) (V : Cond.static (zMy Yc) ∈ zT) (hl : Cond.methodLink (zMy Y).cls idx (zMy Yc) ∈ zT) (hst : st = As.reverse ++ rest) (hr : rest.length ≤ 4) (hf : zFits Y Yc k n) (hc : zC l Yc As h Qc)
    (kx : ∀ E h1, Qc (.inr E) h1 → AX l Y Q (k + (zMr Yc).cells) (n + (zMr Yc).slots) pc ls rest E h1) (kk : ∀ v h1, Qc (.inl v) h1 → AW l Y Q (k + (zMr Yc).cells) (n + (zMr Yc).slots) (pc + 3) ls (v.toList ++ rest) h1) : AW l Y Q k n pc ls st h := by
  intro p e s m args below meth c D dA ad0 h0 A C H locs ad lm hP hE hS hL o1 o2
  subst hst
  have hT := C.2.2.2.2.2.1
  have oA : ∀ v ∈ As, zokv h v := fun v hv => o2 v (List.mem_append_left _ (List.mem_reverse.mpr hv))
  have oR : ∀ v ∈ rest, zokv h v := fun v hv => o2 v (List.mem_append_right _ hv)
  have hA := zA_sub (sz := H.size) hP (fun q hq => C.2.2.2.2.2.2.2.2.2.2.2.2.1 q (Nat.le_trans hS.1 hq))
  have hG : GoodIn zT (va_wsS (zMy Y).cls idx (zMy Yc) (zWs Yc)) := by
    refine zT_in (fun w hw => ?_)
    rcases List.mem_append.mp hw with hw | hw
    · simp only [List.mem_cons, List.not_mem_nil, or_false] at hw
      rcases hw with rfl | rfl | rfl
      · exact hl
      · exact V
      · exact M.2.1
    · exact zWs_in M w hw
  refine z_goes (vx_runS (As := As.map (zc ad)) (rest := rest.map (zc ad)) (nL := zMn Y) ⟨C.1, C.2.1, C.2.2.2.1, C.2.2.2.2.1, hT⟩ (hc D dA ad H.size) (va_cwS As.length hT hG rfl rfl rfl M.2.2 ⟨hf.1, hf.2.1⟩) ⟨zB_blind, fun U hU hW => ⟨rfl, zB_for C hP hE hS oA hU hW⟩⟩ rfl (by rw [List.length_map]) hL.1 (by
    show List.map (zc ad) (As.reverse ++ rest) = _
    rw [List.map_append, List.map_reverse]) (lv_room (zcat_rest hr)) d ⟨hf.2.2.1, hf.2.2.2⟩) hS hA ?_ ?_
  · intro E h1 ad1 H1 locs1 q ce g1 g2 g3 g4 g5 g6 g7
    have K := kx E h1 g1 p e s m args below meth c D dA ad0 h0 A C H1 locs1 ad1 lm q ce g2 (zE_tr hE g3) g4 (zLO_E g3 o1 hL) (fun v hv => zokv_E g3 (o1 v hv)) g5 g6 g7
    rw [zmap_E g3 oR] at K
    exact K
  · intro v h1 ad1 H1 locs1 g1 g2 g3 g4 g5
    have K := kk v h1 g1 p e s m args below meth c D dA ad0 h0 A C H1 locs1 ad1 lm g2 (zE_tr hE g3) g4 (zLO_E g3 o1 hL) (fun v hv => zokv_E g3 (o1 v hv)) (fun w hw => by
      rcases List.mem_append.mp hw with hw | hw
      · cases v with
        | none => cases hw
        | some x =>
          rw [show (some x).toList = [x] from rfl, List.mem_singleton] at hw
          rw [hw]
          exact g5 x rfl
      · exact zokv_E g3 (oR w hw))
    rw [List.map_append, zmap_E g3 oR] at K
    cases v with
    | none => exact K
    | some x => exact K
/-- a call of a constructor -/
theorem e_callI {l : Launch} {Y Yc : zM} {Q Qc : zO → zH → Prop} {k n pc : Nat} {ls st As rest : List zV} {h : zH} {idx b : Nat} (d : decode (zMc Y) pc = .ok (.invokespecial idx, 3)) (M : zMok Yc As.length) (V : Cond.instanceMethod (zMy Yc) ∈ zT) (hret : zMt Yc = none) (hi : (zMy Yc).name = "<init>") (hl : Cond.methodLink (zMy Y).cls idx (zMy Yc) ∈ zT) (hst : st = As.reverse ++ zR (some b) :: rest) (hr : rest.length ≤ 4) (hf : zFits Y Yc k n) (hc : zC l Yc (zR (some b) :: As) h Qc)
    (kx : ∀ E h1, Qc (.inr E) h1 → AX l Y Q (k + (zMr Yc).cells) (n + (zMr Yc).slots) pc ls rest E h1) (kk : ∀ v h1, Qc (.inl v) h1 → AW l Y Q (k + (zMr Yc).cells) (n + (zMr Yc).slots) (pc + 3) ls (v.toList ++ rest) h1) : AW l Y Q k n pc ls st h := by
  intro p e s m args below meth c D dA ad0 h0 A C H locs ad lm hP hE hS hL o1 o2
  subst hst
  have hT := C.2.2.2.2.2.1
  have oA : ∀ v ∈ As, zokv h v := fun v hv => o2 v (List.mem_append_left _ (List.mem_reverse.mpr hv))
  have oB : zokv h (zR (some b)) := o2 _ (List.mem_append_right _ List.mem_cons_self)
  have oR : ∀ v ∈ rest, zokv h v := fun v hv => o2 v (List.mem_append_right _ (List.mem_cons_of_mem _ hv))
  have hA := zA_sub (sz := H.size) hP (fun q hq => C.2.2.2.2.2.2.2.2.2.2.2.2.1 q (Nat.le_trans hS.1 hq))
  refine z_goes (vx_runI (As := As.map (zc ad)) (rest := rest.map (zc ad)) (nL := zMn Y) (b := ad b) ⟨C.1, C.2.1, C.2.2.2.1, C.2.2.2.2.1, hT⟩ (hc D dA ad H.size) (cwI As.length hT (zT_in (zWs_in M)) (by rw [zWs, hret]) rfl rfl (hT _ M.2.1) (hT _ hl) (hT _ V) hi M.2.2 ⟨hf.1, hf.2.1⟩) ⟨zB_blind, fun U hU hW => ⟨rfl, zB_for C hP hE hS (List.forall_mem_cons.mpr ⟨oB, oA⟩) hU hW⟩⟩ rfl (by rw [List.length_map]) hL.1 (by
    show List.map (zc ad) (As.reverse ++ zR (some b) :: rest) = _
    rw [List.map_append, List.map_cons, List.map_reverse]
    rfl) (lv_room (zcat_rest hr)) d ⟨hf.2.2.1, hf.2.2.2⟩) hS hA ?_ ?_
  · intro E h1 ad1 H1 locs1 q ce g1 g2 g3 g4 g5 g6 g7
    have K := kx E h1 g1 p e s m args below meth c D dA ad0 h0 A C H1 locs1 ad1 lm q ce g2 (zE_tr hE g3) g4 (zLO_E g3 o1 hL) (fun v hv => zokv_E g3 (o1 v hv)) g5 g6 g7
    rw [zmap_E g3 oR] at K
    exact K
  · intro v h1 ad1 H1 locs1 g1 g2 g3 g4 g5
    have K := kk v h1 g1 p e s m args below meth c D dA ad0 h0 A C H1 locs1 ad1 lm g2 (zE_tr hE g3) g4 (zLO_E g3 o1 hL) (fun v hv => zokv_E g3 (o1 v hv)) (fun w hw => by
      rcases List.mem_append.mp hw with hw | hw
      · cases v with
        | none => cases hw
        | some x =>
          rw [show (some x).toList = [x] from rfl, List.mem_singleton] at hw
          rw [hw]
          exact g5 x rfl
      · exact zokv_E g3 (oR w hw))
    rw [List.map_append, zmap_E g3 oR] at K
    cases v with
    | none => exact K
    | some x => exact K
theorem e_objInit {l : Launch} {Y : zM} {Q : zO → zH → Prop} {k n pc : Nat} {ls : List zV} {h : zH} {idx b : Nat} (d : decode (zMc Y) pc = .ok (.invokespecial idx, 3)) (hl : Cond.methodLink (zMy Y).cls idx Lib.objectInit ∈ zT) (hi : Cond.instanceMethod Lib.objectInit ∈ zT) (hco : Cond.code Lib.objectInit ⟨#[0xb1]⟩ 1 none ∈ zT) (hf : 1 ≤ (zMr Y).frames) (hlo : 12 ≤ (zMr Y).locals) (K : AW l Y Q k n (pc + 3) ls [] h) : AW l Y Q k n pc ls [zR (some b)] h := by
  intro p e s m args below meth c D dA ad0 h0 A C H locs ad lm hP hE hS hL o1 o2
  have hT := C.2.2.2.2.2.1
  have K := K p e s m args below meth c D dA ad0 h0 A C H locs ad lm hP hE hS hL o1 (zo_tl o2)
  have hsz : lm.size = c.maxLocals := by rw [C.2.2.2.1]; exact hL.1
  exact W.objInit (g := F0 m pc lm [.ref (ad b)]) (a := ad b) (rest := []) C.1 C.2.1 C.2.2.2.2.1 (hT _ hl) (hT _ hi) (hT _ hco) rfl hsz rfl d hf hlo K
/-! the ends -/
theorem e_iret {l : Launch} {Y : zM} {Q : zO → zH → Prop} {k n pc : Nat} {ls : List zV} {h : zH} {z : Int} {ty : FieldType} (d : decode (zMc Y) pc = .ok (.ireturn, 1)) (ht : zMt Y = some ty) (hz : zfit ty z) (hk : k ≤ (zMr Y).cells) (hn : n ≤ (zMr Y).slots) (hq : Q (.inl (some (zI z))) h) : AW l Y Q k n pc ls [zI z] h := by
  intro p e s m args below meth c D dA ad0 h0 A C H locs ad lm hP hE hS hL o1 o2
  refine vx_ret (W.widen hk hn ?_)
  exact W.zret C.1 C.2.1 (C.2.2.1.trans ht) (zfit_ok hz).1 (fun t h1 h2 => ⟨⟨some (zI z), h, ad, rfl, hq, by rw [h1]; exact zP_moved hP h2.alike, hE, fun w hw => by cases hw; trivial⟩, hS.F h1⟩) hS.2.2 d C.2.2.2.2.2.2.1
theorem e_vret {l : Launch} {Y : zM} {Q : zO → zH → Prop} {k n pc : Nat} {ls : List zV} {h : zH} (d : decode (zMc Y) pc = .ok (.return_, 1)) (ht : zMt Y = none) (hk : k ≤ (zMr Y).cells) (hn : n ≤ (zMr Y).slots) (hq : Q (.inl none) h) : AW l Y Q k n pc ls [] h := by
  intro p e s m args below meth c D dA ad0 h0 A C H locs ad lm hP hE hS hL o1 o2
  refine vx_ret (W.widen hk hn ?_)
  exact W.vret C.1 C.2.1 (C.2.2.1.trans ht) (fun t h1 h2 => ⟨⟨none, h, ad, rfl, hq, by rw [h1]; exact zP_moved hP h2.alike, hE, fun w hw => by cases hw⟩, hS.F h1⟩) hS.2.2 d C.2.2.2.2.2.2.1
theorem e_aret {l : Launch} {Y : zM} {Q : zO → zH → Prop} {k n pc : Nat} {ls : List zV} {h : zH} {r : Option Nat} {ty : FieldType} (d : decode (zMc Y) pc = .ok (.areturn, 1)) (ht : zMt Y = some ty) (hty : zIs ty = 1) (hk : k ≤ (zMr Y).cells) (hn : n ≤ (zMr Y).slots) (hq : Q (.inl (some (zR r))) h) : AW l Y Q k n pc ls [zR r] h := by
  intro p e s m args below meth c D dA ad0 h0 A C H locs ad lm hP hE hS hL o1 o2
  refine vx_ret (W.widen hk hn ?_)
  have hrt : (∃ n, ty = .object n) ∨ ∃ t, ty = .array t := by
    cases ty <;> first | (cases hty; done) | exact Or.inl ⟨_, rfl⟩ | exact Or.inr ⟨_, rfl⟩
  exact W.aret C.1 C.2.1 (C.2.2.1.trans ht) hrt (va_rf_or _) (fun t h1 h2 => ⟨⟨some (zR r), h, ad, rfl, hq, by rw [h1]; exact zP_moved hP h2.alike, hE, fun w hw => by cases hw; exact zo_hd o2⟩, hS.F h1⟩) hS.2.2 d C.2.2.2.2.2.2.1
theorem e_lret {l : Launch} {Y : zM} {Q : zO → zH → Prop} {k n pc : Nat} {ls : List zV} {h : zH} {z : Int} (d : decode (zMc Y) pc = .ok (.lreturn, 1)) (ht : zMt Y = some .long) (hk : k ≤ (zMr Y).cells) (hn : n ≤ (zMr Y).slots) (hq : Q (.inl (some (zL z))) h) : AW l Y Q k n pc ls [zL z] h := by
  intro p e s m args below meth c D dA ad0 h0 A C H locs ad lm hP hE hS hL o1 o2
  refine vx_ret (W.widen hk hn ?_)
  exact W.lret C.1 C.2.1 (C.2.2.1.trans ht) (fun t h1 h2 => ⟨⟨some (zL z), h, ad, rfl, hq, by rw [h1]; exact zP_moved hP h2.alike, hE, fun w hw => by cases hw; trivial⟩, hS.F h1⟩) hS.2.2 d C.2.2.2.2.2.2.1
/-! a method's beginning -/
theorem zsl_len {ad : Nat → Nat} : ∀ {As : List zV}, As.all z1 = true → (lg_sl (As.map (zc ad))).length = As.length
  | [], _ => rfl
  | v :: vs, h => by
    rw [List.all_cons, Bool.and_eq_true] at h
    have ih := zsl_len (ad := ad) h.2
    unfold lg_sl at ih ⊢
    rw [List.map_cons, List.flatMap_cons, List.length_append, ih, if_neg (by rw [z1_cat h.1]; decide)]
    simp [Nat.add_comm]
theorem zargs_mem {ad : Nat → Nat} : ∀ {As : List zV} {j i : Nat} {v : zV}, As.all z1 = true → As[i]? = some v → (j + i, zc ad v) ∈ lv_args j (As.map (zc ad))
  | [], j, i, v, _, hi => by simp at hi
  | w :: vs, j, i, v, h, hi => by
    rw [List.all_cons, Bool.and_eq_true] at h
    rw [List.map_cons, lv_args, if_neg (by rw [z1_cat h.1]; decide)]
    cases i with
    | zero =>
      rw [List.getElem?_cons_zero] at hi
      cases hi
      exact List.mem_cons_self
    | succ i =>
      rw [List.getElem?_cons_succ] at hi
      have := zargs_mem (ad := ad) (j := j + 1) h.2 hi
      rw [show j + (i + 1) = j + 1 + i by omega]
      exact List.mem_cons_of_mem _ this
theorem zC_of {l : Launch} {Y : zM} {As ls : List zV} {h : zH} {Q : zO → zH → Prop} (hl : l.stackTraces = false) (hsc : zMs Y = none) (hh : zMh Y = []) (hy : plainName (zMy Y).cls = true) (hls : As ++ List.replicate (zMn Y - As.length) zX = ls) (h1 : As.all z1 = true) (hlen : As.length ≤ zMn Y) (K : AW l Y Q 0 0 0 ls [] h) : zC l Y As h Q := by
  intro D dA ad sz
  refine vx_ofW (cc := zMc Y) (maxL := zMn Y) (ret := zMt Y) hy rfl ?_
  intro p e s m args below meth c s₁ B hml hex hv
  obtain ⟨ha, hsz, hP, hTK, hS0, hstr, hoks⟩ := hv
  subst ha
  have hts0 : ∀ w ∈ zWs Y, w.before (As.map (zc ad)).toArray s = true := atoms_spec (ws := zWs Y) B.pre
  have hlv := lv_entry (As.map (zc ad)) (n := zMn Y) (by rw [zsl_len h1]; exact hlen)
  have hex2 : c.exceptionTable.toList = [] := by
    cases hx : c.exceptionTable.toList with
    | nil => rfl
    | cons x xs => exact (hex x (by rw [hx]; exact List.mem_cons_self)).elim
  rw [lg_entry_eq]
  refine K p e s m _ below meth c D dA ad h (zA ad h sz) ⟨B.exec, B.bytes, B.returns, hml, findClass_of_methodNamed B.named, fun w hw => hts0 w (List.mem_cons_of_mem _ hw), B.notSynchronized, (name_of_methodNamed B.named B.method).1, by rw [hex2, hh]; rfl, hTK, hS0, hstr, fun q hq => Or.inr (by rw [← hsz]; exact hq), hl, by unfold zScr; rw [hsc]; trivial⟩ s.heap [] ad _ hP zE_rf va_S.rf ⟨hlv.1, hlv.2.1, fun i v hi hv => ?_⟩ ?_ (fun v hv => by cases hv)
  · subst hls
    by_cases hlt : i < As.length
    · rw [List.getElem?_append_left hlt] at hi
      have := hlv.2.2 _ (zargs_mem (ad := ad) (j := 0) h1 hi)
      rw [Nat.zero_add] at this
      exact this
    · rw [List.getElem?_append_right (by omega)] at hi
      exact absurd (List.mem_replicate.mp (List.mem_of_getElem? hi)).2 hv
  · intro v hv
    subst hls
    rcases List.mem_append.mp hv with hv | hv
    · exact hoks v hv
    · rw [(List.mem_replicate.mp hv).2]
      trivial
