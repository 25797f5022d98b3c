/-! forgetting locals, cuts, nest mates' calls, wrapped sums -/
def zmask : List Bool → List zV → List zV
  | [], _ => []
  | _, [] => []
  | b :: bs, v :: vs => (if b then v else zX) :: zmask bs vs
theorem zmask_at : ∀ (bs : List Bool) (ls : List zV) (i : Nat) (v : zV), (zmask bs ls)[i]? = some v → v = zX ∨ ls[i]? = some v
  | [], _, i, v, h => by simp [zmask] at h
  | _ :: _, [], i, v, h => by simp [zmask] at h
  | b :: bs, w :: ws, 0, v, h => by
    simp only [zmask, List.getElem?_cons_zero] at h ⊢
    cases b
    · exact Or.inl (Option.some.inj h).symm
    · exact Or.inr h
  | b :: bs, w :: ws, i + 1, v, h => by
    simp only [zmask, List.getElem?_cons_succ] at h ⊢
    exact zmask_at bs ws i v h
theorem e_mask {l : Launch} {Y : zM} {Q : zO → zH → Prop} {k n pc : Nat} {ls st : List zV} {h : zH} (bs : List Bool) (K : AW l Y Q k n pc (zmask bs ls) st h) : AW l Y Q k n pc ls st h := by
  intro p e s m args below meth c D dA ad0 h0 A C H locs ad lm hP hE hS hL o1 o2
  refine K p e s m args below meth c D dA ad0 h0 A C H locs ad lm hP hE hS ⟨hL.1, hL.2.1, fun i v hi hv => ?_⟩ (fun v hv => ?_) o2
  · rcases zmask_at bs ls i v hi with y | y
    · exact absurd y hv
    · exact hL.2.2 i v y hv
  · obtain ⟨i, hi⟩ := List.getElem?_of_mem hv
    rcases zmask_at bs ls i v hi with y | y
    · rw [y]; trivial
    · exact o1 v (List.mem_of_getElem? y)
theorem e_cut {l : Launch} {Y : zM} {Q : zO → zH → Prop} {k n pc : Nat} {ls st : List zV} {h : zH} (pc' : Nat) (st' : List zV) (K1 : AW l Y Q k n pc' ls st' h) (K2 : AW l Y Q k n pc' ls st' h → AW l Y Q k n pc ls st h) : AW l Y Q k n pc ls st h := K2 K1
theorem e_wid {l : Launch} {Y : zM} {Q : zO → zH → Prop} {k n pc : Nat} {ls st : List zV} {h : zH} (k' n' : Nat) (h1 : k ≤ k') (h2 : n ≤ n') (K : AW l Y Q k' n' pc ls st h) : AW l Y Q k n pc ls st h := by
  intro p e s m args below meth c D dA ad0 h0 A C H locs ad lm hP hE hS hL o1 o2
  exact W.widen h1 h2 (K p e s m args below meth c D dA ad0 h0 A C H locs ad lm hP hE hS hL o1 o2)
/-- what is known of a heap in use -/
theorem e_G {l : Launch} {Y : zM} {Q : zO → zH → Prop} {k n pc : Nat} {ls st : List zV} {h : zH} (K : zG h → AW l Y Q k n pc ls st h) : AW l Y Q k n pc ls st h := by
  intro p e s m args below meth c D dA ad0 h0 A C H locs ad lm hP
  exact K hP.1 p e s m args below meth c D dA ad0 h0 A C H locs ad lm hP
/-- what the stack's first names stand for is in use -/
theorem e_ok {l : Launch} {Y : zM} {Q : zO → zH → Prop} {k n pc : Nat} {ls st : List zV} {h : zH} (K : (∀ v ∈ ls, zokv h v) → AW l Y Q k n pc ls st h) : AW l Y Q k n pc ls st h := by
  intro p e s m args below meth c D dA ad0 h0 A C H locs ad lm hP hE hS hL o1 o2
  exact K o1 p e s m args below meth c D dA ad0 h0 A C H locs ad lm hP hE hS hL o1 o2
theorem zwrap (z : Int) : ∃ w : Int, zin w ∧ Int32.ofInt w = Int32.ofInt z := ⟨(Int32.ofInt z).toInt, ⟨Int32.le_toInt _, Int32.toInt_lt _⟩, Int32.ofInt_toInt _⟩
theorem zc_wrap {ad : Nat → Nat} {w z : Int} (h : Int32.ofInt w = Int32.ofInt z) : zc ad (zI w) = zc ad (zI z) := congrArg Value.int h
/-- a whole number on the stack by another name -/
theorem e_wrap {l : Launch} {Y : zM} {Q : zO → zH → Prop} {k n pc : Nat} {ls st : List zV} {h : zH} {z : Int} (K : ∀ w, zin w → AW l Y Q k n pc ls (zI w :: st) h) : AW l Y Q k n pc ls (zI z :: st) h := by
  intro p e s m args below meth c D dA ad0 h0 A C H locs ad lm hP hE hS hL o1 o2
  obtain ⟨w, hw, he⟩ := zwrap z
  have K := K w hw p e s m args below meth c D dA ad0 h0 A C H locs ad lm hP hE hS hL o1 (zo_cons trivial (zo_tl o2))
  rw [List.map_cons, zc_wrap he] at K
  exact K
theorem zxMet {l : Launch} {y : MethodName} {ws : List Cond} {rm : Room} {Pc : Array Value → State → Prop} {Qc : Array Value → State → Outcome → State → Prop} {XC : String → State → State → Prop} {mc ms : Nat} {free : Addr → Prop} (h : vx_Met l y ws rm Pc Qc XC mc ms free) (hx : ∀ E st t, ¬ XC E st t) : Met l y ws rm Pc Qc mc ms free := by
  intro p e ha hc hk s m args below hf happ hP hK
  obtain ⟨t, o, a1, a2, a3, hq⟩ := h p e ha hc hk s m args below hf happ hP hK
  refine ⟨t, o, a1, a2, a3, ?_⟩
  rcases hq with hq | ⟨q, -, E, ce, L, hy, -⟩
  · exact hq
  · exact absurd hy (hx _ _ _)
/-- a call of the host's private static method -/
theorem e_callSN {l : Launch} {Y Yc : zM} {Q Qc : zO → zH → Prop} {k n pc : Nat} {ls st As rest : List zV} {h : zH} {idx : Nat} {host : String} (d : decode (zMc Y) pc = .ok (.invokestatic idx, 3)) (M : zMok Yc As.length) (V : Cond.static (zMy Yc) ∈ zT) (hl : ((zMy Y).cls, idx, zMy Yc, host) ∈ zNm) (hst : st = As.reverse ++ rest) (hr : rest.length ≤ 4) (hf : zFits Y Yc k n) (hc : zC l Yc As h Qc)
    (kx : ∀ E h1, ¬ Qc (.inr E) h1) (kk : ∀ v h1, Qc (.inl v) h1 → AW l Y Q (k + (zMr Yc).cells) (n + (zMr Yc).slots) (pc + 3) ls (v.toList ++ rest) h1) : AW l Y Q k n pc ls st h := by
  intro p e s m args below meth c D dA ad0 h0 A C H locs ad lm hP hE hS hL o1 o2
  subst hst
  have hT := C.2.2.2.2.2.1
  have oA : ∀ v ∈ As, zokv h v := fun v hv => o2 v (List.mem_append_left _ (List.mem_reverse.mpr hv))
  have oR : ∀ v ∈ rest, zokv h v := fun v hv => o2 v (List.mem_append_right _ hv)
  have hA := zA_sub (sz := H.size) hP (fun q hq => C.2.2.2.2.2.2.2.2.2.2.2.2.1 q (Nat.le_trans hS.1 hq))
  have hM := zxMet (hc D dA ad H.size) (fun E st t hx => by obtain ⟨⟨h', ad', hq, -⟩, -⟩ := hx; exact kx E h' hq)
  have hrun := va_runSN (As := As.map (zc ad)) (rest := rest.map (zc ad)) (nL := zMn Y) (meth := meth) (g := F0 m pc lm ((As.reverse ++ rest).map (zc ad))) (l := l) (e := e) (below := below) (H := H) (locs := locs) (cells := k) (slots := n) ⟨C.1, C.2.1, C.2.2.2.1, C.2.2.2.2.1, hT⟩ hM ⟨va_cnB As.length hT (zT_in (zWs_in M)) rfl rfl rfl (C.2.2.2.2.2.2.2.2.2.2.2.1.2.2.2.2.1 _ hl) (hT _ M.2.1) M.2.2 ⟨hf.1, hf.2.1⟩, hT _ V, trivial⟩ ⟨zB_blind, fun U hU hW => ⟨rfl, zB_for C hP hE hS oA hU hW⟩⟩ rfl (by rw [List.length_map]) hL.1 (by
    show List.map (zc ad) (As.reverse ++ rest) = _
    rw [List.map_append, List.map_reverse]) (lv_room (zcat_rest hr)) d ⟨hf.2.2.1, hf.2.2.2⟩
  refine z_goes (h := h) (ad := ad) (D := D) (dA := dA) (mc := (zMr Yc).cells) (ms := (zMr Yc).slots) (Qc := Qc) (a := (As.map (zc ad)).toArray) (rest := rest.map (zc ad)) (fun T hT X => Or.inl ?_) hS hA ?_ ?_
  · exact hrun T hT X
  · intro E h1 ad1 H1 locs1 q ce g1
    exact absurd g1 (kx E h1)
  · intro v h1 ad1 H1 locs1 g1 g2 g3 g4 g5
    have K := kk v h1 g1 p e s m args below meth c D dA ad0 h0 A C H1 locs1 ad1 lm g2 (zE_tr hE g3) g4 (zLO_E g3 o1 hL) (fun v hv => zokv_E g3 (o1 v hv)) (fun w hw => by
      rcases List.mem_append.mp hw with hw | hw
      · cases v with
        | none => cases hw
        | some x =>
          rw [show (some x).toList = [x] from rfl, List.mem_singleton] at hw
          rw [hw]
          exact g5 x rfl
      · exact zokv_E g3 (oR w hw))
    rw [List.map_append, zmap_E g3 oR] at K
    cases v with
    | none => exact K
    | some x => exact K
