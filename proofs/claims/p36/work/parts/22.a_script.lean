/-! calls that hand the script on; deeper stacks; longs in locals; shifts -/
theorem zcat_rest1 {ad : Nat → Nat} {rest : List zV} (h1 : rest.all z1 = true) (hr : rest.length ≤ 8) : ((rest.map (zc ad)).map fun v => v.category).sum ≤ 8 := by
  have h2 : ∀ vs : List zV, vs.all z1 = true → ((vs.map (zc ad)).map fun v => v.category).sum = vs.length := by
    intro vs
    induction vs with
    | nil => intro _; rfl
    | cons v vs ih =>
      intro h
      rw [List.all_cons, Bool.and_eq_true] at h
      rw [List.map_cons, List.map_cons, List.sum_cons, ih h.2, z1_cat h.1, List.length_cons]
      omega
  rw [h2 rest h1]
  exact hr
/-- a contract of a method that holds the script -/
def zCY (l : Launch) (Y : zM) (As : List zV) (h : zH) (Q : zO → zH → Prop) : Prop :=
  ∀ (D : va_G) (dA : Nat → ClassId) (ad : Nat → Nat) (sz : Nat), vx_Met l (zMy Y) (zWs Y) (zMr Y) (va_Pc (As.map (zc ad)) (fun U => zB D dA ad sz As h U ∧ zScr Y U (zA ad h sz) (ad 1))) (zQc D dA ad h Q (zA ad h sz)) (zXc D dA ad h Q (zA ad h sz)) (zMr Y).cells (zMr Y).slots (zA ad h sz)
theorem zCY_of {l : Launch} {Y : zM} {As ls : List zV} {h : zH} {Q : zO → zH → Prop} (hl : l.stackTraces = false) (hh : zMh Y = []) (hy : plainName (zMy Y).cls = true) (hls : As ++ List.replicate (zMn Y - As.length) zX = ls) (h1 : As.all z1 = true) (hlen : As.length ≤ zMn Y) (K : AW l Y Q 0 0 0 ls [] h) : zCY l Y As h Q := by
  intro D dA ad sz
  refine vx_ofW (cc := zMc Y) (maxL := zMn Y) (ret := zMt Y) hy rfl ?_
  intro p e s m args below meth c s₁ B hml hex hv
  obtain ⟨ha, ⟨hsz, hP, hTK, hS0, hstr, hoks⟩, hY⟩ := hv
  subst ha
  have hts0 : ∀ w ∈ zWs Y, w.before (As.map (zc ad)).toArray s = true := atoms_spec (ws := zWs Y) B.pre
  have hlv := lv_entry (As.map (zc ad)) (n := zMn Y) (by rw [zsl_len h1]; exact hlen)
  have hex2 : c.exceptionTable.toList = [] := by
    cases hx : c.exceptionTable.toList with
    | nil => rfl
    | cons x xs => exact (hex x (by rw [hx]; exact List.mem_cons_self)).elim
  rw [lg_entry_eq]
  refine K p e s m _ below meth c D dA ad h (zA ad h sz) ⟨B.exec, B.bytes, B.returns, hml, findClass_of_methodNamed B.named, fun w hw => hts0 w (List.mem_cons_of_mem _ hw), B.notSynchronized, (name_of_methodNamed B.named B.method).1, by rw [hex2, hh]; rfl, hTK, hS0, hstr, fun q hq => Or.inr (by rw [← hsz]; exact hq), hl, hY⟩ s.heap [] ad _ hP zE_rf va_S.rf ⟨hlv.1, hlv.2.1, fun i v hi hv => ?_⟩ ?_ (fun v hv => by cases hv)
  · subst hls
    by_cases hlt : i < As.length
    · rw [List.getElem?_append_left hlt] at hi
      have := hlv.2.2 _ (zargs_mem (ad := ad) (j := 0) h1 hi)
      rw [Nat.zero_add] at this
      exact this
    · rw [List.getElem?_append_right (by omega)] at hi
      exact absurd (List.mem_replicate.mp (List.mem_of_getElem? hi)).2 hv
  · intro v hv
    subst hls
    rcases List.mem_append.mp hv with hv | hv
    · exact hoks v hv
    · rw [(List.mem_replicate.mp hv).2]
      trivial
theorem zScr_moved {Y : zM} {s U : State} {A : Nat → Prop} {e1 : Nat} (hvm : s.vm.Alike U.vm) (hh : U.heap = s.heap) (h : zScr Y s A e1) : zScr Y U A e1 := by
  unfold zScr at h ⊢
  cases hm : zMs Y with
  | none => trivial
  | some q =>
    rw [hm] at h
    obtain ⟨hX, hbl, hbA, hL2⟩ := h
    show va_X e1 q.1 q.2 U U.heap ∧ e1 < U.heap.size ∧ ¬ A e1 ∧ q.1 < 2147483648
    rw [hh]
    exact ⟨va_X.moved hvm hX, hbl, hbA, hL2⟩
theorem zBY_blind {Y : zM} {D : va_G} {dA : Nat → ClassId} {ad : Nat → Nat} {sz : Nat} {As : List zV} {h : zH} {av : List Value} : FrameBlind (va_Pc av (fun U => zB D dA ad sz As h U ∧ zScr Y U (zA ad h sz) (ad 1))) := by
  intro a U g mk hp
  obtain ⟨h1, hB, hY⟩ := hp
  have h2 := zB_blind (av := av) a U g mk ⟨h1, hB⟩
  exact ⟨h2.1, h2.2, zScr_moved (U := U.calling g mk a) (Vm.Alike.refl U.vm) rfl hY⟩
theorem zScr_for {l : Launch} {Y Yc : zM} {p : Program} {s U : State} {m : MethodId} {args : Array Value} {meth : Method} {c : Code} {D : va_G} {dA : Nat → ClassId} {ad0 ad : Nat → Nat} {h0 h : zH} {A : Nat → Prop} {H : Heap} {locs : List Loc} (C : zCX l Y p s m args meth c dA A (ad0 0) (ad0 1)) (hP : zP s D dA A ad h H) (hE : zE h0 ad0 h ad) (hS : va_S A s.heap H locs) (hU : U.heap = H) (hW : s.WarmedH U.vm) (e : zMs Yc = zMs Y) : zScr Yc U (zA ad h H.size) (ad 1) := by
  have hA := zA_sub (sz := H.size) hP (fun q hq => C.2.2.2.2.2.2.2.2.2.2.2.2.1 q (Nat.le_trans hS.1 hq))
  have hsc := C.2.2.2.2.2.2.2.2.2.2.2.2.2.2
  unfold zScr at hsc ⊢
  rw [e]
  cases hm : zMs Y with
  | none => trivial
  | some q =>
    rw [hm] at hsc
    obtain ⟨hX, hbl, hbA, hL2⟩ := hsc
    have e1 : ad 1 = ad0 1 := hE.1 1 (Or.inl (Nat.le_refl 1))
    show va_X (ad 1) q.1 q.2 U U.heap ∧ ad 1 < U.heap.size ∧ ¬ zA ad h H.size (ad 1) ∧ q.1 < 2147483648
    rw [e1, hU]
    exact ⟨va_X.moved hW.alike (va_X.kept hX (hS.2.1 _ hbl hbA)), Nat.lt_of_lt_of_le hbl hS.1, fun z => hbA (hA _ z), hL2⟩
/-- a call that hands the script on, over any stack -/
theorem w_callSY {l : Launch} {Y Yc : zM} {Qc : zO → zH → Prop} {k n pc : Nat} {ls As : List zV} {h : zH} {idx : Nat} {p : Program} {e : Env} {s : State} {m : MethodId} {args : Array Value} {below : List Frame} {meth : Method} {c : Code} {D : va_G} {dA : Nat → ClassId} {ad0 ad : Nat → Nat} {h0 : zH} {A : Nat → Prop} {H : Heap} {locs : List Loc} {lm : Array Slot} {restV : List Value} {QQ : State → Prop} (C : zCX l Y p s m args meth c dA A (ad0 0) (ad0 1)) (hP : zP s D dA A ad h H) (hE : zE h0 ad0 h ad) (hS : va_S A s.heap H locs) (hL : zLO ad ls lm (zMn Y)) (d : decode (zMc Y) pc = .ok (.invokestatic idx, 3)) (M : zMok Yc As.length) (V : Cond.static (zMy Yc) ∈ zT) (hl : Cond.methodLink (zMy Y).cls idx (zMy Yc) ∈ zT) (eY : zMs Yc = zMs Y) (oA : ∀ v ∈ As, zokv h v) (hr : (restV.map fun v => v.category).sum ≤ 8) (hf : zFits Y Yc k n) (hc : zCY l Yc As h Qc)
    (kx : ∀ E h1, ¬ Qc (.inr E) h1) (kk : ∀ (v : Option zV) (h1 : zH) (ad1 : Nat → Nat) (H1 : Heap) (locs1 : List Loc), Qc (.inl v) h1 → zP s D dA A ad1 h1 H1 → zE h ad h1 ad1 → va_S A s.heap H1 locs1 → (∀ w, v = some w → zokv h1 w) → W p l e (zMr Y) s m args below meth c H1 locs1 (k + (zMr Yc).cells) (n + (zMr Yc).slots) QQ (F0 m (pc + 3) lm ((v.map (zc ad1)).toList ++ restV))) : W p l e (zMr Y) s m args below meth c H locs k n QQ (F0 m pc lm ((As.map (zc ad)).reverse ++ restV)) := by
  have hT := C.2.2.2.2.2.1
  have hA := zA_sub (sz := H.size) hP (fun q hq => C.2.2.2.2.2.2.2.2.2.2.2.2.1 q (Nat.le_trans hS.1 hq))
  have hG : GoodIn zT (va_wsS (zMy Y).cls idx (zMy Yc) (zWs Yc)) := by
    refine zT_in (fun w hw => ?_)
    rcases List.mem_append.mp hw with hw | hw
    · simp only [List.mem_cons, List.not_mem_nil, or_false] at hw
      rcases hw with rfl | rfl | rfl
      · exact hl
      · exact V
      · exact M.2.1
    · exact zWs_in M w hw
  refine z_goes (vx_runS (As := As.map (zc ad)) (rest := restV) (nL := zMn Y) ⟨C.1, C.2.1, C.2.2.2.1, C.2.2.2.2.1, hT⟩ (hc D dA ad H.size) (va_cwS As.length hT hG rfl rfl rfl M.2.2 ⟨hf.1, hf.2.1⟩) ⟨zBY_blind, fun U hU hW => ⟨rfl, zB_for C hP hE hS oA hU hW, zScr_for C hP hE hS hU hW eY⟩⟩ rfl (by rw [List.length_map]) hL.1 rfl (lv_room hr) d ⟨hf.2.2.1, hf.2.2.2⟩) hS hA ?_ kk
  intro E h1 ad1 H1 locs1 q ce g1
  exact absurd g1 (kx E h1)
theorem e_callSY {l : Launch} {Y Yc : zM} {Q Qc : zO → zH → Prop} {k n pc : Nat} {ls st As rest : List zV} {h : zH} {idx : Nat} (d : decode (zMc Y) pc = .ok (.invokestatic idx, 3)) (M : zMok Yc As.length) (V : Cond.static (zMy Yc) ∈ zT) (hl : Cond.methodLink (zMy Y).cls idx (zMy Yc) ∈ zT) (eY : zMs Yc = zMs Y) (hst : st = As.reverse ++ rest) (hr : rest.all z1 = true) (hr2 : rest.length ≤ 8) (hf : zFits Y Yc k n) (hc : zCY l Yc As h Qc)
    (kx : ∀ E h1, ¬ Qc (.inr E) h1) (kk : ∀ v h1, Qc (.inl v) h1 → AW l Y Q (k + (zMr Yc).cells) (n + (zMr Yc).slots) (pc + 3) ls (v.toList ++ rest) h1) : AW l Y Q k n pc ls st h := by
  intro p e s m args below meth c D dA ad0 h0 A C H locs ad lm hP hE hS hL o1 o2
  subst hst
  have oA : ∀ v ∈ As, zokv h v := fun v hv => o2 v (List.mem_append_left _ (List.mem_reverse.mpr hv))
  have oR : ∀ v ∈ rest, zokv h v := fun v hv => o2 v (List.mem_append_right _ hv)
  rw [List.map_append, List.map_reverse]
  refine w_callSY (Yc := Yc) C hP hE hS hL d M V hl eY oA (zcat_rest1 hr hr2) hf hc kx ?_
  intro v h1 ad1 H1 locs1 g1 g2 g3 g4 g5
  have K := kk v h1 g1 p e s m args below meth c D dA ad0 h0 A C H1 locs1 ad1 lm g2 (zE_tr hE g3) g4 (zLO_E g3 o1 hL) (fun v hv => zokv_E g3 (o1 v hv)) (fun w hw => by
    rcases List.mem_append.mp hw with hw | hw
    · cases v with
      | none => cases hw
      | some x =>
        rw [show (some x).toList = [x] from rfl, List.mem_singleton] at hw
        rw [hw]
        exact g5 x rfl
    · exact zokv_E g3 (oR w hw))
  rw [List.map_append, zmap_E g3 oR] at K
  cases v with
  | none => exact K
  | some x => exact K
theorem e_aloadY {l : Launch} {Y : zM} {Q : zO → zH → Prop} {k n pc : Nat} {ls st : List zV} {h : zH} {i : Fin 4} {j : Nat} (d : decode (zMc Y) pc = .ok (.aload_n i, 1)) (hi : (i : Nat) = j) (hl : ls[j]? = some zY) (K : AW l Y Q k n (pc + 1) ls (zY :: st) h) : AW l Y Q k n pc ls st h := by
  intro p e s m args below meth c D dA ad0 h0 A C H locs ad lm hP hE hS hL o1 o2
  exact lv_aload_n C.1 C.2.1 d hi (zLO_at hL hl (by intro z; cases z)) (K p e s m args below meth c D dA ad0 h0 A C H locs ad lm hP hE hS hL o1 (zo_cons trivial o2))
theorem e_sld {l : Launch} {Y : zM} {Q : zO → zH → Prop} {k n pc : Nat} {ls st : List zV} {h : zH} {L : Nat} {f : Nat → Int32} {i : Int} (hs : zMs Y = some (L, f)) (d : decode (zMc Y) pc = .ok (.iaload, 1)) (hi0 : 0 ≤ i) (hi1 : i < L) (K : zin (f i.toNat).toInt → AW l Y Q k n (pc + 1) ls (zI (f i.toNat).toInt :: st) h) : AW l Y Q k n pc ls (zI i :: zY :: st) h := by
  intro p e s m args below meth c D dA ad0 h0 A C H locs ad lm hP hE hS hL o1 o2
  have K := K ⟨Int32.le_toInt _, Int32.toInt_lt _⟩ p e s m args below meth c D dA ad0 h0 A C H locs ad lm hP hE hS hL o1 (zo_cons trivial (zo_tl (zo_tl o2)))
  have hsc := C.2.2.2.2.2.2.2.2.2.2.2.2.2.2
  unfold zScr at hsc
  rw [hs] at hsc
  obtain ⟨hX, hbl, hbA, hL2⟩ := hsc
  have hL3 : L < 2147483648 := hL2
  have hi : zin i := ⟨by omega, by omega⟩
  have e1 : ad 1 = ad0 1 := hE.1 1 (Or.inl (Nat.le_refl 1))
  show W p l e (zMr Y) s m args below meth c H locs k n _ (F0 m pc lm (.int (Int32.ofInt i) :: .ref (ad 1) :: st.map (zc ad)))
  rw [e1]
  have hin : vp_in (Int32.ofInt i) L := by
    unfold vp_in
    rw [zcl hi0 hi]
    intro z
    rcases z with z | z
    · have := (zin_lt hi zin_0).mp z
      omega
    · omega
  refine va_sld C.1 C.2.1 hX hbl hbA hS hin d ?_
  rw [zcl hi0 hi]
  have K : W p l e (zMr Y) s m args below meth c H locs k n (vx_MQ below (zQc D dA ad0 h0 Q A) (zXc D dA ad0 h0 Q A) args s (zMr Y).cells (zMr Y).slots A) (F0 m (pc + 1) lm (.int (Int32.ofInt (f i.toNat).toInt) :: st.map (zc ad))) := K
  rw [Int32.ofInt_toInt] at K
  exact K
theorem e_slen {l : Launch} {Y : zM} {Q : zO → zH → Prop} {k n pc : Nat} {ls st : List zV} {h : zH} {L : Nat} {f : Nat → Int32} (hs : zMs Y = some (L, f)) (d : decode (zMc Y) pc = .ok (.arraylength, 1)) (K : AW l Y Q k n (pc + 1) ls (zI (L : Int) :: st) h) : AW l Y Q k n pc ls (zY :: st) h := by
  intro p e s m args below meth c D dA ad0 h0 A C H locs ad lm hP hE hS hL o1 o2
  have K := K p e s m args below meth c D dA ad0 h0 A C H locs ad lm hP hE hS hL o1 (zo_cons trivial (zo_tl o2))
  have hsc := C.2.2.2.2.2.2.2.2.2.2.2.2.2.2
  unfold zScr at hsc
  rw [hs] at hsc
  obtain ⟨hX, hbl, hbA, hL2⟩ := hsc
  have e1 : ad 1 = ad0 1 := hE.1 1 (Or.inl (Nat.le_refl 1))
  show W p l e (zMr Y) s m args below meth c H locs k n _ (F0 m pc lm (.ref (ad 1) :: st.map (zc ad)))
  rw [e1]
  refine va_slen C.1 C.2.1 hX hbl hbA hS d ?_
  exact K
theorem e_lload {l : Launch} {Y : zM} {Q : zO → zH → Prop} {k n pc : Nat} {ls st : List zV} {h : zH} {j : Nat} {z : Int} (d : decode (zMc Y) pc = .ok (.lload j, 2)) (hl : ls[j]? = some (zL z)) (K : AW l Y Q k n (pc + 2) ls (zL z :: st) h) : AW l Y Q k n pc ls st h := by
  intro p e s m args below meth c D dA ad0 h0 A C H locs ad lm hP hE hS hL o1 o2
  exact lv_lload C.1 C.2.1 d (zLO_at hL hl (by intro z; cases z)) (K p e s m args below meth c D dA ad0 h0 A C H locs ad lm hP hE hS hL o1 (zo_cons trivial o2))
theorem zLO_set2 {ad : Nat → Nat} {ls : List zV} {lm : Array Slot} {nL i : Nat} {v : zV} {w : Value} (hlow : zlow ls i = true) (hv : zc ad v = w) (h : lv_has lm nL ((i, w) :: (zls ad ls).filter (fun q => !(q.1 == i) && (!(q.1 == i + 1) && !(q.1 + 1 == i && q.2.category == 2))))) : zLO ad ((ls.set i v).set (i + 1) zX) lm nL := by
  refine ⟨h.1, h.2.1, fun j u hj hu => ?_⟩
  rw [List.getElem?_set] at hj
  by_cases e : i + 1 = j
  · subst e
    rw [if_pos rfl] at hj
    split at hj
    · cases hj
      exact absurd rfl hu
    · cases hj
  · rw [if_neg e, List.getElem?_set] at hj
    by_cases e0 : i = j
    · subst e0
      rw [if_pos rfl] at hj
      split at hj
      · cases hj
        rw [hv]
        exact h.2.2 (i, w) List.mem_cons_self
      · cases hj
    · rw [if_neg e0] at hj
      refine h.2.2 (j, zc ad u) (List.mem_cons_of_mem _ (List.mem_filter.mpr ⟨zls_mem hj hu, ?_⟩))
      have e1 : (j == i) = false := by simp; omega
      have e3 : (j == i + 1) = false := by simp; omega
      have e2 : (j + 1 == i && (zc ad u).category == 2) = false := by
        by_cases e3 : j + 1 = i
        · subst e3
          have h1 : z1 u = true := by
            have := hlow
            simp only [zlow, hj] at this
            exact this
          rw [z1_cat h1]
          simp
        · simp [e3]
      simp only [e1, e2, e3, Bool.not_false, Bool.and_self]
theorem e_lstore {l : Launch} {Y : zM} {Q : zO → zH → Prop} {k n pc : Nat} {ls st : List zV} {h : zH} {j : Nat} {z : Int} {ls2 : List zV} (d : decode (zMc Y) pc = .ok (.lstore j, 2)) (hn : j + 1 < zMn Y) (hw : zlow ls j = true) (hs : (ls.set j (zL z)).set (j + 1) zX = ls2) (K : AW l Y Q k n (pc + 2) ls2 st h) : AW l Y Q k n pc ls (zL z :: st) h := by
  intro p e s m args below meth c D dA ad0 h0 A C H locs ad lm hP hE hS hL o1 o2
  subst hs
  exact lv_lstore C.1 C.2.1 d (zLO_has hL) hn rfl (fun lm2 h2 => K p e s m args below meth c D dA ad0 h0 A C H locs ad lm2 hP hE hS (zLO_set2 hw rfl h2) (zo_set trivial (zo_set trivial o1)) (zo_tl o2))
theorem zi_u32 (u : UInt32) : u.toInt32 = Int32.ofInt (u.toNat : Int) := by
  apply Int32.toBitVec_inj.mp
  show u.toBitVec = BitVec.ofInt 32 ((u.toBitVec.toNat : Nat) : Int)
  rw [BitVec.ofInt_natCast, BitVec.ofNat_toNat, BitVec.setWidth_eq]
/-- a logical shift by 3 -/
def sh3 (a : Int) : Int := (((Int32.ofInt a).toUInt32 >>> 3).toNat : Int)
theorem sh3_in (a : Int) : 0 ≤ sh3 a ∧ sh3 a < 536870912 := by
  have h1 : ((Int32.ofInt a).toUInt32 >>> 3).toNat < 536870912 := by
    have h2 := (Int32.ofInt a).toUInt32.toNat_lt
    rw [UInt32.toNat_shiftRight]
    show (Int32.ofInt a).toUInt32.toNat >>> 3 < 536870912
    rw [Nat.shiftRight_eq_div_pow]
    omega
  unfold sh3
  omega
theorem e_iushr3 {l : Launch} {Y : zM} {Q : zO → zH → Prop} {k n pc : Nat} {ls st : List zV} {h : zH} {a : Int} (d : decode (zMc Y) pc = .ok (.iushr, 1)) (K : AW l Y Q k n (pc + 1) ls (zI (sh3 a) :: st) h) : AW l Y Q k n pc ls (zI 3 :: zI a :: st) h := by
  intro p e s m args below meth c D dA ad0 h0 A C H locs ad lm hP hE hS hL o1 o2
  have K := K p e s m args below meth c D dA ad0 h0 A C H locs ad lm hP hE hS hL o1 (zo_cons trivial (zo_tl (zo_tl o2)))
  refine lv_iushr (v := Int32.ofInt (sh3 a)) C.1 C.2.1 d ?_ K
  rw [show ((Int32.ofInt 3).toUInt32 &&& Int32.toUInt32 31) = 3 from by decide]
  exact zi_u32 _
/-- the law's numbers: cell and some -/
def cellv (L : Nat) (f : Nat → Int32) (k : Int) : Int := if k < L then (f k.toNat).toInt else 7919 * k + 12
def smv (L : Nat) (f : Nat → Int32) (k n : Int) : Int := sh3 (cellv L f k) % n
theorem smv_in {L : Nat} {f : Nat → Int32} {k n : Int} (h : 0 < n) : 0 ≤ smv L f k n ∧ smv L f k n < n := ⟨Int.emod_nonneg _ (by omega), Int.emod_lt_of_pos _ h⟩
abbrev MLcell (L : Nat) (f : Nat → Int32) : zM := (yL_cell, cL_cell, 2, (some .int), { frames := 0, cells := 0, slots := 0, locals := 0 }, [], some (L, f))
abbrev MLsome (L : Nat) (f : Nat → Int32) : zM := (yL_some, cL_some, 3, (some .int), { frames := 1, cells := 0, slots := 0, locals := 21 }, [], some (L, f))
theorem c_L_cell {l : Launch} (hl : l.stackTraces = false) {L : Nat} {f : Nat → Int32} {h : zH} (hL : L ≤ 260) (k : Int) (h0 : 0 ≤ k) (h1 : k ≤ 400) : zCY l (MLcell L f) [zY, zI k] h (fun o h' => o = .inl (some (zI (cellv L f k))) ∧ h' = h ∧ zin (cellv L f k)) := by
  refine zCY_of hl rfl (show plainName RL = true by decide) rfl rfl (Nat.le_of_ble_eq_true rfl) ?_
  refine e_iload_n dL_cell_0 rfl rfl ?_
  refine e_aloadY dL_cell_1 rfl rfl ?_
  refine e_slen (L := L) (f := f) rfl dL_cell_2 ?_
  refine e_icmp_ge (tgt := 12) dL_cell_3 (by decide) (by omega) (by omega) (fun c => ?_) (fun c => ?_)
  · refine e_sipush dL_cell_12 (by decide) ?_
    refine e_iload_n dL_cell_15 rfl rfl ?_
    refine e_imul dL_cell_16 ?_
    refine e_bipush dL_cell_17 (by decide) ?_
    refine e_iadd dL_cell_19 ?_
    refine e_iret dL_cell_20 rfl trivial (Nat.le_of_ble_eq_true rfl) (Nat.le_of_ble_eq_true rfl) ?_
    have e : cellv L f k = 7919 * k + 12 := if_neg (by omega)
    exact ⟨by rw [e], rfl, by rw [e]; omega⟩
  · refine e_aloadY dL_cell_6 rfl rfl ?_
    refine e_iload_n dL_cell_7 rfl rfl ?_
    refine e_sld (L := L) (f := f) rfl dL_cell_8 h0 (by omega) (fun r => ?_)
    refine e_goto (tgt := 20) dL_cell_9 (by decide) ?_
    refine e_iret dL_cell_20 rfl trivial (Nat.le_of_ble_eq_true rfl) (Nat.le_of_ble_eq_true rfl) ?_
    have e : cellv L f k = (f k.toNat).toInt := if_pos (by omega)
    exact ⟨by rw [e], rfl, by rw [e]; exact r⟩
theorem c_L_some {l : Launch} (hl : l.stackTraces = false) {L : Nat} {f : Nat → Int32} {h : zH} (hL : L ≤ 260) (k n : Int) (h0 : 0 ≤ k) (h1 : k ≤ 400) (n0 : 0 < n) (n1 : n ≤ 100000) : zCY l (MLsome L f) [zY, zI k, zI n] h (fun o h' => o = .inl (some (zI (smv L f k n))) ∧ h' = h) := by
  refine zCY_of hl rfl (show plainName RL = true by decide) rfl rfl (Nat.le_of_ble_eq_true rfl) ?_
  refine e_aloadY dL_some_0 rfl rfl ?_
  refine e_iload_n dL_some_1 rfl rfl ?_
  refine e_callSY (Yc := MLcell L f) (As := [zY, zI _]) dL_some_2 moL_cell msL_cell mlL_7 rfl rfl rfl (Nat.le_of_ble_eq_true rfl) ⟨Nat.le_of_ble_eq_true rfl, Nat.le_of_ble_eq_true rfl, Nat.le_of_ble_eq_true rfl, Nat.le_of_ble_eq_true rfl⟩ (c_L_cell hl hL k h0 h1) (fun E h1 q => by cases q.1) (fun v h9 q => ?_)
  obtain ⟨e1, e2, e3⟩ := q
  cases e1
  rw [e2]
  clear e2 h9
  refine e_iconst dL_some_5 ?_
  refine e_iushr3 dL_some_6 ?_
  have hs := sh3_in (cellv L f k)
  refine e_iload_n dL_some_7 rfl rfl ?_
  refine e_irem dL_some_8 (by omega) (by omega) (by omega) (by omega) ?_
  refine e_iret dL_some_9 rfl trivial (Nat.le_of_ble_eq_true rfl) (Nat.le_of_ble_eq_true rfl) ?_
  exact ⟨rfl, rfl⟩
