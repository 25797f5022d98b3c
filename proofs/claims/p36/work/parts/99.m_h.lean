/-! rows of longs and doubles; calls of methods that catch -/
theorem zup_l {h : zH} {a : Nat} {i z : Int} (h0 : 0 ≤ i) : (fun j : Nat => Int64.ofInt (zm (sm h a i z) a (j : Int))) = vp_updL (fun j : Nat => Int64.ofInt (zm h a (j : Int))) i.toNat (Int64.ofInt z) := by
  funext j
  show Int64.ofInt (z3 (zm h) a i z a j) = _
  unfold vp_updL z3
  by_cases e : (j : Int) = i
  · rw [if_pos ⟨rfl, e⟩, if_pos (by omega)]
  · rw [if_neg (fun y => e y.2), if_neg (by omega)]
theorem zup_d {h : zH} {a : Nat} {i : Int} {z : UInt64} (h0 : 0 ≤ i) : (fun j : Nat => zd (sd h a i z) a (j : Int)) = vf_upd (fun j : Nat => zd h a (j : Int)) i.toNat z := by
  funext j
  show z3 (zd h) a i z a j = _
  unfold vf_upd z3
  by_cases e : (j : Int) = i
  · rw [if_pos ⟨rfl, e⟩, if_pos (by omega)]
  · rw [if_neg (fun y => e y.2), if_neg (by omega)]
theorem zEn_sm {dA : Nat → ClassId} {ad : Nat → Nat} {h : zH} {n m : Nat} {i z : Int} (hm : m ≠ n) : zEn dA ad (sm h n i z) m = zEn dA ad h m :=
  zEn_congr rfl rfl (fun _ => rfl) (fun _ => rfl) (fun _ => rfl) (fun _ => rfl) (fun _ => rfl) (fun j => z3_nn hm) (fun _ => rfl)
theorem zEn_sd {dA : Nat → ClassId} {ad : Nat → Nat} {h : zH} {n m : Nat} {i : Int} {z : UInt64} (hm : m ≠ n) : zEn dA ad (sd h n i z) m = zEn dA ad h m :=
  zEn_congr rfl rfl (fun _ => rfl) (fun _ => rfl) (fun _ => rfl) (fun _ => rfl) (fun _ => rfl) (fun _ => rfl) (fun j => z3_nn hm)
theorem e_lald {l : Launch} {Y : zM} {Q : zO → zH → Prop} {k n pc : Nat} {ls st : List zV} {h : zH} {a : Nat} {i z : Int} (d : decode (zMc Y) pc = .ok (.laload, 1)) (hK : zK h a = 102) (hi0 : 0 ≤ i) (hi1 : i < zN h a) (hz : zm h a i = z) (K : AW l Y Q k n (pc + 1) ls (zL z :: st) h) : AW l Y Q k n pc ls (zI i :: zR (some a) :: st) h := by
  intro p e s m args below meth c D dA ad0 h0 A C H locs ad lm hP hE hS hL o1 o2
  have K := K p e s m args below meth c D dA ad0 h0 A C H locs ad lm hP hE hS hL o1 (zo_cons trivial (zo_tl (zo_tl o2)))
  obtain ⟨L, tys, q0, t0, h1, h2, h3, h4, h5, hq, ht0, hw⟩ := zP_row hP (t := 2) hK
  obtain ⟨v1, v2, v3⟩ := zvin hP.1 hi0 hi1
  refine va_lald C.1 C.2.1 h1 h4 q0 t0 hw ht0 v1 d ?_
  rw [v2, hz]
  exact K
theorem e_dald {l : Launch} {Y : zM} {Q : zO → zH → Prop} {k n pc : Nat} {ls st : List zV} {h : zH} {a : Nat} {i : Int} {z : UInt64} (d : decode (zMc Y) pc = .ok (.daload, 1)) (hK : zK h a = 103) (hi0 : 0 ≤ i) (hi1 : i < zN h a) (hz : zd h a i = z) (K : AW l Y Q k n (pc + 1) ls (zD z :: st) h) : AW l Y Q k n pc ls (zI i :: zR (some a) :: st) h := by
  intro p e s m args below meth c D dA ad0 h0 A C H locs ad lm hP hE hS hL o1 o2
  have K := K p e s m args below meth c D dA ad0 h0 A C H locs ad lm hP hE hS hL o1 (zo_cons trivial (zo_tl (zo_tl o2)))
  obtain ⟨L, tys, q0, t0, h1, h2, h3, h4, h5, hq, ht0, hw⟩ := zP_row hP (t := 3) hK
  obtain ⟨v1, v2, v3⟩ := zvin hP.1 hi0 hi1
  refine va_dald C.1 C.2.1 h1 h4 q0 t0 hw ht0 v1 d ?_
  rw [v2, hz]
  exact K
theorem e_last {l : Launch} {Y : zM} {Q : zO → zH → Prop} {k n pc : Nat} {ls st : List zV} {h : zH} {a : Nat} {i z : Int} (d : decode (zMc Y) pc = .ok (.lastore, 1)) (hK : zK h a = 102) (hi0 : 0 ≤ i) (hi1 : i < zN h a) (K : AW l Y Q k n (pc + 1) ls st (sm h a i z)) : AW l Y Q k n pc ls (zL z :: zI i :: zR (some a) :: st) h := by
  intro p e s m args below meth c D dA ad0 h0 A C H locs ad lm hP hE hS hL o1 o2
  obtain ⟨L, tys, q0, t0, h1, h2, h3, h4, h5, hq, ht0, hw⟩ := zP_row hP (t := 2) hK
  obtain ⟨v1, v2, v3⟩ := zvin hP.1 hi0 hi1
  refine va_last C.1 C.2.1 h1 h4 h5 hS q0 t0 hw ht0 v1 d (fun H1 locs1 p1 p2 p3 => ?_)
  rw [zcl hi0 v3, ← zup_l hi0] at p1 p2
  exact K p e s m args below meth c D dA ad0 h0 A C H1 locs1 ad lm (zP_stored (h := h) (h' := sm h a i z) hP.1 (fun _ => rfl) h1 h2 h3 h5 hq (zEn_r (h := sm h a i z) (t := 2) hK) (fun m hm => zEn_sm hm) p1 p2) (zE_st hE (fun _ => rfl)) p3 hL (zos_st (h := h) (h' := sm h a i z) (fun _ => rfl) o1) (zos_st (h := h) (h' := sm h a i z) (fun _ => rfl) (zo_tl (zo_tl (zo_tl o2))))
theorem e_dast {l : Launch} {Y : zM} {Q : zO → zH → Prop} {k n pc : Nat} {ls st : List zV} {h : zH} {a : Nat} {i : Int} {z : UInt64} (d : decode (zMc Y) pc = .ok (.dastore, 1)) (hK : zK h a = 103) (hi0 : 0 ≤ i) (hi1 : i < zN h a) (K : AW l Y Q k n (pc + 1) ls st (sd h a i z)) : AW l Y Q k n pc ls (zD z :: zI i :: zR (some a) :: st) h := by
  intro p e s m args below meth c D dA ad0 h0 A C H locs ad lm hP hE hS hL o1 o2
  obtain ⟨L, tys, q0, t0, h1, h2, h3, h4, h5, hq, ht0, hw⟩ := zP_row hP (t := 3) hK
  obtain ⟨v1, v2, v3⟩ := zvin hP.1 hi0 hi1
  refine va_dast C.1 C.2.1 h1 h4 h5 hS q0 t0 hw ht0 v1 d (fun H1 locs1 p1 p2 p3 => ?_)
  rw [zcl hi0 v3, ← zup_d hi0] at p1 p2
  exact K p e s m args below meth c D dA ad0 h0 A C H1 locs1 ad lm (zP_stored (h := h) (h' := sd h a i z) hP.1 (fun _ => rfl) h1 h2 h3 h5 hq (zEn_r (h := sd h a i z) (t := 3) hK) (fun m hm => zEn_sd hm) p1 p2) (zE_st hE (fun _ => rfl)) p3 hL (zos_st (h := h) (h' := sd h a i z) (fun _ => rfl) o1) (zos_st (h := h) (h' := sd h a i z) (fun _ => rfl) (zo_tl (zo_tl (zo_tl o2))))
/-- a contract of a method that catches -/
def zCH (l : Launch) (Y : zM) (As : List zV) (h : zH) (Q : zO → zH → Prop) : Prop :=
  ∀ (D : va_G) (dA : Nat → ClassId) (ad : Nat → Nat) (sz : Nat), vx_Met l (zMy Y) (zWh Y) (zMr Y) (va_Pc (As.map (zc ad)) (zB D dA ad sz As h)) (zQc D dA ad h Q (zA ad h sz)) (zXc D dA ad h Q (zA ad h sz)) (zMr Y).cells (zMr Y).slots (zA ad h sz)
theorem zCH_of {l : Launch} {Y : zM} {As ls : List zV} {h : zH} {Q : zO → zH → Prop} (hl : l.stackTraces = false) (hsc : zMs Y = none) (hy : plainName (zMy Y).cls = true) (hls : As ++ List.replicate (zMn Y - As.length) zX = ls) (h1 : As.all z1 = true) (hlen : As.length ≤ zMn Y) (K : AW l Y Q 0 0 0 ls [] h) : zCH l Y As h Q := by
  intro D dA ad sz
  refine vx_ofWH (cc := zMc Y) (maxL := zMn Y) (ret := zMt Y) (hh := zMh Y) hy rfl ?_
  intro p e s m args below meth c s₁ B hml hv
  obtain ⟨ha, hsz, hP, hTK, hS0, hstr, hoks⟩ := hv
  subst ha
  have hts0 : ∀ w ∈ zWh Y, w.before (As.map (zc ad)).toArray s = true := atoms_spec (ws := zWh Y) B.pre
  have hlv := lv_entry (As.map (zc ad)) (n := zMn Y) (by rw [zsl_len h1]; exact hlen)
  have hex2 : c.exceptionTable.toList = tableOf (zMh Y) := vx_table (x := zMy Y) B (hts0 _ List.mem_cons_self)
  rw [lg_entry_eq]
  refine K p e s m _ below meth c D dA ad h (zA ad h sz) ⟨B.exec, B.bytes, B.returns, hml, findClass_of_methodNamed B.named, fun w hw => hts0 w (List.mem_cons_of_mem _ hw), B.notSynchronized, (name_of_methodNamed B.named B.method).1, hex2, hTK, hS0, hstr, fun q hq => Or.inr (by rw [← hsz]; exact hq), hl, by unfold zScr; rw [hsc]; trivial⟩ s.heap [] ad _ hP zE_rf va_S.rf ⟨hlv.1, hlv.2.1, fun i v hi hv => ?_⟩ ?_ (fun v hv => by cases hv)
  · subst hls
    by_cases hlt : i < As.length
    · rw [List.getElem?_append_left hlt] at hi
      have := hlv.2.2 _ (zargs_mem (ad := ad) (j := 0) h1 hi)
      rw [Nat.zero_add] at this
      exact this
    · rw [List.getElem?_append_right (by omega)] at hi
      exact absurd (List.mem_replicate.mp (List.mem_of_getElem? hi)).2 hv
  · intro v hv
    subst hls
    rcases List.mem_append.mp hv with hv | hv
    · exact hoks v hv
    · rw [(List.mem_replicate.mp hv).2]
      trivial
/-- a method with handlers that the world knows -/
def zHok (Y : zM) (n : Nat) : Prop := (Cond.codeWith (zMy Y) (zMc Y) (zMn Y) (zMt Y) (zMh Y) ∈ zT ∧ Cond.static (zMy Y) ∈ zT ∧ Cond.initialized (zMy Y).cls ∈ zT) ∧ ((zMy Y).cls ≠ "java/lang/invoke/MethodHandle" ∧ (zMy Y).cls ≠ "java/lang/invoke/VarHandle" ∧ (parseMethodDescriptor (zMy Y).desc).map (fun d => d.parameters.length) = some n)
theorem e_callH {l : Launch} {Y Yc : zM} {Q Qc : zO → zH → Prop} {k n pc : Nat} {ls st As rest : List zV} {h : zH} {idx : Nat} (d : decode (zMc Y) pc = .ok (.invokestatic idx, 3)) (M : zHok Yc As.length) (hl : Cond.methodLink (zMy Y).cls idx (zMy Yc) ∈ zT) (hst : st = As.reverse ++ rest) (hr : rest.length ≤ 4) (hf : zFits Y Yc k n) (hc : zCH l Yc As h Qc)
    (kx : ∀ E h1, Qc (.inr E) h1 → AX l Y Q (k + (zMr Yc).cells) (n + (zMr Yc).slots) pc ls rest E h1) (kk : ∀ v h1, Qc (.inl v) h1 → AW l Y Q (k + (zMr Yc).cells) (n + (zMr Yc).slots) (pc + 3) ls (v.toList ++ rest) h1) : AW l Y Q k n pc ls st h := by
  intro p e s m args below meth c D dA ad0 h0 A C H locs ad lm hP hE hS hL o1 o2
  subst hst
  have hT := C.2.2.2.2.2.1
  have oA : ∀ v ∈ As, zokv h v := fun v hv => o2 v (List.mem_append_left _ (List.mem_reverse.mpr hv))
  have oR : ∀ v ∈ rest, zokv h v := fun v hv => o2 v (List.mem_append_right _ hv)
  have hA := zA_sub (sz := H.size) hP (fun q hq => C.2.2.2.2.2.2.2.2.2.2.2.2.1 q (Nat.le_trans hS.1 hq))
  have hG : GoodIn zT (va_wsS (zMy Y).cls idx (zMy Yc) (zWh Yc)) := by
    refine zT_in (fun w hw => ?_)
    rcases List.mem_append.mp hw with hw | hw
    · simp only [List.mem_cons, List.not_mem_nil, or_false] at hw
      rcases hw with rfl | rfl | rfl
      · exact hl
      · exact M.1.2.1
      · exact M.1.2.2
    · rcases List.mem_cons.mp hw with rfl | hw
      · exact M.1.1
      · exact hw
  refine z_goes (vx_runSX (As := As.map (zc ad)) (rest := rest.map (zc ad)) (nL := zMn Y) ⟨C.1, C.2.1, C.2.2.2.1, C.2.2.2.2.1, hT⟩ (hc D dA ad H.size) (vx_cwSW As.length hT hG rfl rfl rfl M.2 ⟨hf.1, hf.2.1⟩) ⟨zB_blind, fun U hU hW => ⟨rfl, zB_for C hP hE hS oA hU hW⟩⟩ rfl (by rw [List.length_map]) hL.1 (by
    show List.map (zc ad) (As.reverse ++ rest) = _
    rw [List.map_append, List.map_reverse]) (lv_room (zcat_rest hr)) d ⟨hf.2.2.1, hf.2.2.2⟩) hS hA ?_ ?_
  · intro E h1 ad1 H1 locs1 q ce g1 g2 g3 g4 g5 g6 g7
    have K := kx E h1 g1 p e s m args below meth c D dA ad0 h0 A C H1 locs1 ad1 lm q ce g2 (zE_tr hE g3) g4 (zLO_E g3 o1 hL) (fun v hv => zokv_E g3 (o1 v hv)) g5 g6 g7
    rw [zmap_E g3 oR] at K
    exact K
  · intro v h1 ad1 H1 locs1 g1 g2 g3 g4 g5
    have K := kk v h1 g1 p e s m args below meth c D dA ad0 h0 A C H1 locs1 ad1 lm g2 (zE_tr hE g3) g4 (zLO_E g3 o1 hL) (fun v hv => zokv_E g3 (o1 v hv)) (fun w hw => by
      rcases List.mem_append.mp hw with hw | hw
      · cases v with
        | none => cases hw
        | some x =>
          rw [show (some x).toList = [x] from rfl, List.mem_singleton] at hw
          rw [hw]
          exact g5 x rfl
      · exact zokv_E g3 (oR w hw))
    rw [List.map_append, zmap_E g3 oR] at K
    cases v with
    | none => exact K
    | some x => exact K
theorem zLO_setX {ad : Nat → Nat} {ls : List zV} {lm : Array Slot} {nL i : Nat} {w : Value} (hlow : zlow ls i = true) (h : lv_has lm nL ((i, w) :: (zls ad ls).filter (fun q => !(q.1 == i) && !(q.1 + 1 == i && q.2.category == 2)))) : zLO ad (ls.set i zX) lm nL := by
  refine ⟨h.1, h.2.1, fun j u hj hu => ?_⟩
  rw [List.getElem?_set] at hj
  by_cases e : i = j
  · subst e
    rw [if_pos rfl] at hj
    split at hj
    · cases hj
      exact absurd rfl hu
    · cases hj
  · rw [if_neg e] at hj
    refine h.2.2 (j, zc ad u) (List.mem_cons_of_mem _ (List.mem_filter.mpr ⟨zls_mem hj hu, ?_⟩))
    have e1 : (j == i) = false := by simp; omega
    have e2 : (j + 1 == i && (zc ad u).category == 2) = false := by
      by_cases e3 : j + 1 = i
      · subst e3
        have h1 : z1 u = true := by
          have := hlow
          simp only [zlow, hj] at this
          exact this
        rw [z1_cat h1]
        simp
      · simp [e3]
    simp only [e1, e2, Bool.not_false, Bool.and_self]
/-- caught: the throw's class is the row's own, those ahead are others -/
theorem AX_catch {l : Launch} {Y : zM} {Q : zO → zH → Prop} {k n pc hp ct j : Nat} {ls ls2 rest : List zV} {E : String} {h : zH} {from_ to_ : Nat} (pre suf : List (Nat × Nat × Nat × Nat)) (hh : zMh Y = pre ++ (from_, to_, hp, ct) :: suf) (hx : from_ ≤ pc ∧ pc < to_) (hct : ct ≠ 0) (hE1 : E ∈ zXs) (hlk : Cond.classLink (zMy Y).cls ct E ∈ zT) (hca : (E, E) ∈ zCa) (hpass : ∀ z ∈ pre, z.2.2.2 ≠ 0 ∧ ∃ F, F ∈ zXs ∧ E ≠ F ∧ Cond.classLink (zMy Y).cls z.2.2.2 F ∈ zT)
    (hn : j < zMn Y) (hw : zlow ls j = true) (hs : ls.set j zX = ls2) (d : (∃ i : Fin 4, (i : Nat) = j ∧ decode (zMc Y) hp = .ok (.astore_n i, 1) ∧ AW l Y Q k n (hp + 1) ls2 [] h) ∨ (decode (zMc Y) hp = .ok (.astore j, 2) ∧ AW l Y Q k n (hp + 2) ls2 [] h)) : AX l Y Q k n pc ls rest E h := by
  intro p e s m args below meth c D dA ad0 h0 A C H locs ad lm q ce hP hE hS hL o1 hce hcv hcl
  subst hs
  have hT := C.2.2.2.2.2.1
  have htab : c.exceptionTable.toList = tableOf pre ++ (⟨from_, to_, hp, ct⟩ : ExceptionTableEntry) :: tableOf suf := by
    rw [C.2.2.2.2.2.2.2.2.1, hh]
    show List.map _ (pre ++ _ :: suf) = _
    rw [List.map_append, List.map_cons]
    rfl
  have o3 : ∀ v ∈ ls.set j zX, zokv h v := zo_set trivial o1
  refine vx_catch C.2.2.2.2.1 (tableOf pre) _ (tableOf suf) htab (fun z hz => ?_) ?_ hct (hT _ hlk) (va_Nw.use rfl (C.2.2.2.2.2.2.2.2.2.2.2.1.2.2.1 _ hca)) hce hcv hcl ?_
  · obtain ⟨w, hw1, rfl⟩ := List.mem_map.mp hz
    obtain ⟨g1, F, g2, g3, g4⟩ := hpass w hw1
    exact Or.inr ⟨g1, F, hT _ g4, C.2.2.2.2.2.2.2.2.2.2.2.1.2.1.1 E hE1 F g2 g3⟩
  · show (decide (from_ ≤ pc) && decide (pc < to_)) = true
    rw [decide_eq_true hx.1, decide_eq_true hx.2]
    rfl
  · rcases d with ⟨i, hi, d, K⟩ | ⟨d, K⟩
    · exact lv_astore_n C.1 C.2.1 d hi (zLO_has hL) hn rfl (fun lm2 h2 => K p e s m args below meth c D dA ad0 h0 A C H locs ad lm2 hP hE hS (zLO_setX hw h2) o3 (fun v hv => by cases hv))
    · exact lv_astore C.1 C.2.1 d (zLO_has hL) hn rfl (fun lm2 h2 => K p e s m args below meth c D dA ad0 h0 A C H locs ad lm2 hP hE hS (zLO_setX hw h2) o3 (fun v hv => by cases hv))
theorem e_lcmp_eq {l : Launch} {Y : zM} {Q : zO → zH → Prop} {k n pc : Nat} {ls st : List zV} {h : zH} {a b : Int} (d : decode (zMc Y) pc = .ok (.lcmp, 1)) (hab : a = b) (K : AW l Y Q k n (pc + 1) ls (zI 0 :: st) h) : AW l Y Q k n pc ls (zL b :: zL a :: st) h := by
  intro p e s m args below meth c D dA ad0 h0 A C H locs ad lm hP hE hS hL o1 o2
  subst hab
  have K := K p e s m args below meth c D dA ad0 h0 A C H locs ad lm hP hE hS hL o1 (zo_cons trivial (zo_tl (zo_tl o2)))
  intro T hT X
  obtain ⟨t, a1, b1⟩ := K T hT X
  refine ⟨t, ?_, b1⟩
  jvm_step X.here [X.here.top, C.1, C.2.1, d]
  refine ⟨_, _, _, ⟨rfl, rfl, rfl⟩, ?_⟩
  rw [if_neg (fun z => Int64.lt_irrefl z), if_pos rfl]
  exact a1
