/-! the world seen from another state -/
theorem zP_moved {s t : State} {D : va_G} {dA : Nat → ClassId} {A : Nat → Prop} {ad : Nat → Nat} {h : zH} {H : Heap} (hP : zP s D dA A ad h H) (hvm : s.vm.Alike t.vm) : zP t D dA A ad h H := by
  obtain ⟨g, L, tys, h1, h2⟩ := hP
  exact ⟨g, L, tys, va_K.moved hvm h1, h2⟩
theorem zP_weaken {s : State} {D : va_G} {dA : Nat → ClassId} {A B : Nat → Prop} {ad : Nat → Nat} {h : zH} {H : Heap} (hP : zP s D dA A ad h H) (hAB : ∀ q, A q → B q) : zP s D dA B ad h H := by
  obtain ⟨g, L, tys, h1, h2, h3, h4, h5⟩ := hP
  exact ⟨g, L, tys, h1, h2, h3, h4, h5.weaken (fun _ _ _ y => hAB _ y)⟩
theorem zP_A {s : State} {D : va_G} {dA : Nat → ClassId} {A : Nat → Prop} {ad : Nat → Nat} {h : zH} {H : Heap} (hP : zP s D dA A ad h H) {n : Nat} (hn : zK h n ≠ 0) : A (ad n) := by
  obtain ⟨L, tys, q0, h1, h2, h3, h4, h5, hq⟩ := zP_at hP hn
  exact h5.2 q0 _ (zW_at hq)
theorem zP_self {s : State} {D : va_G} {dA : Nat → ClassId} {A : Nat → Prop} {ad : Nat → Nat} {h : zH} {H : Heap} {sz : Nat} (hP : zP s D dA A ad h H) : zP s D dA (zA ad h sz) ad h H := by
  obtain ⟨g, L, tys, h1, h2, h3, h4, h5⟩ := hP
  refine ⟨g, L, tys, h1, h2, h3, h4, h5.1, fun j q hq => ?_⟩
  cases hl : L[j]? with
  | none => rw [zW, List.getElem?_map, hl] at hq; cases hq
  | some m =>
    rw [zW_at hl] at hq
    cases hq
    exact Or.inl ⟨m, (h2 m).mp (List.mem_of_getElem? hl), rfl⟩
theorem zA_sub {s : State} {D : va_G} {dA : Nat → ClassId} {A : Nat → Prop} {ad : Nat → Nat} {h : zH} {H : Heap} {sz : Nat} (hP : zP s D dA A ad h H) (hA : ∀ q : Nat, sz ≤ q → A q) : ∀ q, zA ad h sz q → A q := by
  intro q hq
  rcases hq with ⟨n, hn, rfl⟩ | hq
  · exact zP_A hP hn
  · exact hA q hq
theorem zc_E {h h1 : zH} {ad ad1 : Nat → Nat} {v : zV} (hE : zE h ad h1 ad1) (ho : zokv h v) : zc ad1 v = zc ad v := by
  rcases v with z | r | z | u | u | u
  · rfl
  · cases r with
    | none => rfl
    | some a => exact congrArg Value.ref (hE.1 a ((ho a rfl).imp_left (fun y => by omega)))
  · rfl
  · rfl
  · rfl
  · cases u
    · rfl
    · exact congrArg Value.ref (hE.1 1 (Or.inl (Nat.le_refl 1)))
theorem zmap_E {h h1 : zH} {ad ad1 : Nat → Nat} {vs : List zV} (hE : zE h ad h1 ad1) (ho : ∀ v ∈ vs, zokv h v) : vs.map (zc ad1) = vs.map (zc ad) := List.map_congr_left (fun v hv => zc_E hE (ho v hv))
theorem zokv_E {h h1 : zH} {ad ad1 : Nat → Nat} {v : zV} (hE : zE h ad h1 ad1) (ho : zokv h v) : zokv h1 v := by
  rcases v with z | r | z | u | u | u
  · trivial
  · intro n hn
    rcases ho n hn with y | y
    · exact Or.inl y
    · exact Or.inr (by rw [hE.2 n y]; exact y)
  · trivial
  · trivial
  · trivial
  · trivial
theorem zLO_E {h h1 : zH} {ad ad1 : Nat → Nat} {ls : List zV} {lm : Array Slot} {nL : Nat} (hE : zE h ad h1 ad1) (ho : ∀ v ∈ ls, zokv h v) (hL : zLO ad ls lm nL) : zLO ad1 ls lm nL :=
  ⟨hL.1, hL.2.1, fun i v hi hv => by rw [zc_E hE (ho v (List.mem_of_getElem? hi))]; exact hL.2.2 i v hi hv⟩
theorem zS_for {A B : Nat → Prop} {e0 : Nat} {s U : State} {H : Heap} {locs : List Loc} (h : zS A e0 s s.heap) (hS : va_S A s.heap H locs) (hW : s.WarmedH U.vm) (hBA : ∀ q, B q → A q) : zS B e0 U H :=
  ⟨(vx_Zq.moved hW.alike (h.1.kept hS.2.1)).narrow hBA, (vx_Zq.moved hW.alike (h.2.1.kept hS.2.1)).narrow hBA, (va_Z.moved hW.alike (h.2.2.1.kept hS.2.1)).narrow hBA, (va_T.moved hW.alike (h.2.2.2.1.kept hS.2.1)).narrow hBA, by
    obtain ⟨x, y, hR, h1, h2, h3, h4, h5, h6⟩ := h.2.2.2.2
    exact ⟨x, y, vk_R.warm hW hR, (va_O.moved hW.alike (h1.kept hS.2.1)).narrow hBA, (va_OF.moved hW.alike (h2.kept hS.2.1)).narrow hBA, (va_OF.moved hW.alike (h3.kept hS.2.1)).narrow hBA, (va_T.moved hW.alike (h4.kept hS.2.1)).narrow hBA, (va_Z.moved hW.alike (h5.kept hS.2.1)).narrow hBA, (va_Zq.moved hW.alike (h6.kept hS.2.1)).narrow hBA⟩⟩
/-- a throw at pc, on its way -/
def AX (l : Launch) (Y : zM) (Q : zO → zH → Prop) (k n pc : Nat) (ls rest : List zV) (E : String) (h : zH) : Prop :=
  ∀ (p : Program) (e : Env) (s : State) (m : MethodId) (args : Array Value) (below : List Frame) (meth : Method) (c : Code) (D : va_G) (dA : Nat → ClassId) (ad0 : Nat → Nat) (h0 : zH) (A : Nat → Prop),
    zCX l Y p s m args meth c dA A (ad0 0) (ad0 1) → ∀ (H : Heap) (locs : List Loc) (ad : Nat → Nat) (lm : Array Slot) (q : Addr) (ce : Cell), zP s D dA A ad h H → zE h0 ad0 h ad → va_S A s.heap H locs → zLO ad ls lm (zMn Y) → (∀ v ∈ ls, zokv h v) → H[q]? = some ce → ce.vm = .none → s.vm.findClass E = some ce.cls →
      vx_W p l e (zMr Y) s m args below meth c H locs k n (vx_MQ below (zQc D dA ad0 h0 Q A) (zXc D dA ad0 h0 Q A) args s (zMr Y).cells (zMr Y).slots A) (F0 m pc lm (rest.map (zc ad))) q
theorem AX_out {l : Launch} {Y : zM} {Q : zO → zH → Prop} {k n pc : Nat} {ls rest : List zV} {E : String} {h : zH} (hh : zMh Y = []) (hk : k ≤ (zMr Y).cells) (hn : n ≤ (zMr Y).slots) (hq : Q (.inr E) h) : AX l Y Q k n pc ls rest E h := by
  intro p e s m args below meth c D dA ad0 h0 A C H locs ad lm q ce hP hE hS hL o1 hce hcv hcl
  have ht : c.exceptionTable.toList = [] := by
    rw [C.2.2.2.2.2.2.2.2.1, hh]
    rfl
  refine vx_out (fun x hx => by rw [ht] at hx; cases hx) C.2.2.2.2.2.2.1 hce hcv hcl (fun t h1 h2 => ⟨⟨h, ad, hq, ?_, hE⟩, hS.F h1⟩) hS.2.2 hk hn
  rw [h1]
  exact zP_moved hP h2
section ZG
variable {p : Program} {l : Launch} {e : Env} {R : Room} {s : State} {m : MethodId} {args : Array Value} {below : List Frame} {meth : Method} {c : Code} {H : Heap} {locs : List Loc} {k n mc ms pc : Nat} {lm : Array Slot} {st0 rest : List Value} {D : va_G} {dA : Nat → ClassId} {ad : Nat → Nat} {h : zH} {Qc : zO → zH → Prop} {A A1 : Nat → Prop} {a : Array Value} {Qm : State → Prop}
theorem z_goes (hr : vx_Run p l e R s m args below meth c H locs k n mc ms (F0 m pc lm st0) rest (zQc D dA ad h Qc A1 a) (zXc D dA ad h Qc A1) A1) (hS : va_S A s.heap H locs) (hA : ∀ q, A1 q → A q)
    (kx : ∀ (E : String) (h1 : zH) (ad1 : Nat → Nat) (H1 : Heap) (locs1 : List Loc) (q : Addr) (ce : Cell), Qc (.inr E) h1 → zP s D dA A ad1 h1 H1 → zE h ad h1 ad1 → va_S A s.heap H1 locs1 → H1[q]? = some ce → ce.vm = .none → s.vm.findClass E = some ce.cls → vx_W p l e R s m args below meth c H1 locs1 (k + mc) (n + ms) Qm (F0 m pc lm rest) q)
    (kk : ∀ (v : Option zV) (h1 : zH) (ad1 : Nat → Nat) (H1 : Heap) (locs1 : List Loc), Qc (.inl v) h1 → zP s D dA A ad1 h1 H1 → zE h ad h1 ad1 → va_S A s.heap H1 locs1 → (∀ w, v = some w → zokv h1 w) → W p l e R s m args below meth c H1 locs1 (k + mc) (n + ms) Qm (F0 m (pc + 3) lm ((v.map (zc ad1)).toList ++ rest))) :
    W p l e R s m args below meth c H locs k n Qm (F0 m pc lm st0) := by
  intro T hT X
  rcases hr T hT X with ⟨v, st₀, t, T', L, h0, X', hL, e1, e2, ⟨⟨v', h1, ad1, hv, hq, hP1, hE1, ho⟩, hF⟩, st⟩ | ⟨q, st₀, t, T', L, E, ce, h0, X', hL, e1, e2, ⟨⟨h1, ad1, hq, hP1, hE1⟩, hF⟩, hce, hcv, hcl, st⟩
  · cases hv
    obtain ⟨k1, k2, k3⟩ := vx_keep h0 e1 hS (fun q _ y => hA q y) hA hL hF
    have hP2 : zP s D dA A ad1 h1 T'.heap := by
      rw [e1]
      refine zP_weaken (zP_moved hP1 ?_) hA
      rw [← e2]
      exact X'.warmed.alike.symm
    obtain ⟨t2, a1, b1⟩ := kk v' h1 ad1 T'.heap (locs ++ L) hq hP2 hE1 k3 ho T' rfl X'
    exact ⟨t2, st t2 a1, b1⟩
  · obtain ⟨k1, k2, k3⟩ := vx_keep h0 e1 hS (fun q _ y => hA q y) hA hL hF
    have hP2 : zP s D dA A ad1 h1 T'.heap := by
      rw [e1]
      refine zP_weaken (zP_moved hP1 ?_) hA
      rw [← e2]
      exact X'.warmed.alike.symm
    obtain ⟨t2, a1, b1⟩ := kx E h1 ad1 T'.heap (locs ++ L) q ce hq hP2 hE1 k3 (by rw [e1]; exact hce) hcv hcl T' rfl X'
    exact ⟨t2, st.trans a1, b1⟩
end ZG
/-- a callee's start, at any state of the caller's tables -/
theorem zB_for {l : Launch} {Y : zM} {p : Program} {s U : State} {m : MethodId} {args : Array Value} {meth : Method} {c : Code} {D : va_G} {dA : Nat → ClassId} {ad0 ad : Nat → Nat} {h0 h : zH} {A : Nat → Prop} {H : Heap} {locs : List Loc} {As : List zV} (C : zCX l Y p s m args meth c dA A (ad0 0) (ad0 1)) (hP : zP s D dA A ad h H) (hE : zE h0 ad0 h ad) (hS : va_S A s.heap H locs) (ho : ∀ v ∈ As, zokv h v) (hU : U.heap = H) (hW : s.WarmedH U.vm) : zB D dA ad H.size As h U := by
  have hA := zA_sub (sz := H.size) hP (fun q hq => C.2.2.2.2.2.2.2.2.2.2.2.2.1 q (Nat.le_trans hS.1 hq))
  refine ⟨by rw [hU], ?_, fun t c9 hc => C.2.2.2.2.2.2.2.2.2.1 t c9 (by rw [← hW.alike.findClass]; exact hc), ?_, ⟨fun q hq => ?_, ⟨fun E hE F hF ne => va_Nc.moved hW.alike (C.2.2.2.2.2.2.2.2.2.2.2.1.2.1.1 E hE F hF ne), C.2.2.2.2.2.2.2.2.2.2.2.1.2.1.2.imp (fun mi hmi => va_Mi.moved hW.alike hmi)⟩, fun q hq => va_Nw.warmC hW (C.2.2.2.2.2.2.2.2.2.2.2.1.2.2.1 q hq), fun q hq => va_Nw.warmD hW (C.2.2.2.2.2.2.2.2.2.2.2.1.2.2.2.1 q hq), fun q hq => va_Nw.warmM hW (C.2.2.2.2.2.2.2.2.2.2.2.1.2.2.2.2.1 q hq), fun E hE => va_AO.moved hW.alike (C.2.2.2.2.2.2.2.2.2.2.2.1.2.2.2.2.2 E hE)⟩, ho⟩
  · rw [hU]
    exact zP_self (zP_moved hP hW.alike)
  · rw [hU, hE.1 0 (Or.inl (Nat.zero_le 1))]
    exact zS_for C.2.2.2.2.2.2.2.2.2.2.1 hS hW hA
  · obtain ⟨a, ha⟩ := C.2.2.2.2.2.2.2.2.2.2.2.1.1 q hq
    exact ⟨a, vk_R.warm hW ha⟩
theorem zB_blind {D : va_G} {dA : Nat → ClassId} {ad : Nat → Nat} {sz : Nat} {As : List zV} {h : zH} {av : List Value} : FrameBlind (va_Pc av (zB D dA ad sz As h)) := by
  intro a U g mk hp
  obtain ⟨h1, h2, h3, h4, h5, h6, h7⟩ := hp
  refine ⟨h1, h2, zP_moved (t := U.calling g mk a) h3 (Vm.Alike.refl U.vm), h4, ?_, ⟨fun q hq => ?_, ⟨fun E hE F hF ne => va_Nc.moved (U := U.calling g mk a) (Vm.Alike.refl U.vm) (h6.2.1.1 E hE F hF ne), h6.2.1.2.imp (fun mi hmi => va_Mi.moved (U := U.calling g mk a) (Vm.Alike.refl U.vm) hmi)⟩, fun q hq => va_Nw.same (U := U.calling g mk a) rfl rfl (h6.2.2.1 q hq), fun q hq => va_Nw.same (U := U.calling g mk a) rfl rfl (h6.2.2.2.1 q hq), fun q hq => va_Nw.same (U := U.calling g mk a) rfl rfl (h6.2.2.2.2.1 q hq), fun E hE => va_AO.moved (U := U.calling g mk a) (Vm.Alike.refl U.vm) (h6.2.2.2.2.2 E hE)⟩, h7⟩
  · exact zS_for (s := U) (U := U.calling g mk a) h5 (va_S.rf (A := zA ad h sz)) (State.WarmedH.refl U) (fun _ y => y)
  · obtain ⟨x, hx⟩ := h6.1 q hq
    exact ⟨x, vk_R.same (u := U) rfl hx⟩
theorem zT_good {w : Cond} (h : w ∈ zT) : (w.onTables && w.keeps) = true ∨ ∃ ty, w = .arrayClass ty := good_of_word (List.mem_filter.mp h).2
theorem zT_in {ws : List Cond} (h : ∀ w ∈ ws, w ∈ zT) : GoodIn zT ws := fun w hw => ⟨h w hw, zT_good (h w hw)⟩
/-- a method that the world knows -/
def zMok (Y : zM) (n : Nat) : Prop := Cond.code (zMy Y) (zMc Y) (zMn Y) (zMt Y) ∈ zT ∧ Cond.initialized (zMy Y).cls ∈ zT ∧ ((zMy Y).cls ≠ "java/lang/invoke/MethodHandle" ∧ (zMy Y).cls ≠ "java/lang/invoke/VarHandle" ∧ (parseMethodDescriptor (zMy Y).desc).map (fun d => d.parameters.length) = some n)
theorem zWs_in {Y : zM} {n : Nat} (h : zMok Y n) : ∀ w ∈ zWs Y, w ∈ zT := fun w hw => by
  rcases List.mem_cons.mp hw with rfl | hw
  · exact h.1
  · exact hw
def zVok (Y : zM) : Prop := Cond.instanceMethod (zMy Y) ∈ zT ∧ Cond.selects (zMy Y).cls (zMy Y) (zMy Y) ∈ zT
theorem zcat_rest {ad : Nat → Nat} {rest : List zV} (hr : rest.length ≤ 4) : ((rest.map (zc ad)).map fun v => v.category).sum ≤ 8 := by
  have h2 : ∀ v : Value, v.category ≤ 2 := by intro v; cases v <;> (first | exact Nat.le_refl 2 | exact Nat.le_succ 1)
  have h1 : ∀ vs : List Value, (vs.map fun v => v.category).sum ≤ 2 * vs.length := by
    intro vs
    induction vs with
    | nil => exact Nat.le_refl _
    | cons v vs ih =>
      rw [List.map_cons, List.sum_cons, List.length_cons]
      have := h2 v
      omega
  have := h1 (rest.map (zc ad))
  rw [List.length_map] at this
  omega
/-- the room that a call takes -/
def zFits (Y Yc : zM) (k n : Nat) : Prop := (zMr Yc).frames + 1 ≤ (zMr Y).frames ∧ 8 + (zMn Yc + 11) + (zMr Yc).locals ≤ (zMr Y).locals ∧ k + (zMr Yc).cells ≤ (zMr Y).cells ∧ n + (zMr Yc).slots ≤ (zMr Y).slots
theorem e_callV {l : Launch} {Y Yc : zM} {Q Qc : zO → zH → Prop} {k n pc : Nat} {ls st As rest : List zV} {h : zH} {idx b cb : Nat} (d : decode (zMc Y) pc = .ok (.invokevirtual idx, 3)) (M : zMok Yc As.length) (V : zVok Yc) (hl : Cond.methodLink (zMy Y).cls idx (zMy Yc) ∈ zT) (hcb : cb < 10) (hcn : zCn cb = (zMy Yc).cls) (hK : zK h b = cb + 1) (hst : st = As.reverse ++ zR (some b) :: rest) (hr : rest.length ≤ 4) (hf : zFits Y Yc k n) (hc : zC l Yc (zR (some b) :: As) h Qc)
    (kx : ∀ E h1, Qc (.inr E) h1 → AX l Y Q (k + (zMr Yc).cells) (n + (zMr Yc).slots) pc ls rest E h1) (kk : ∀ v h1, Qc (.inl v) h1 → AW l Y Q (k + (zMr Yc).cells) (n + (zMr Yc).slots) (pc + 3) ls (v.toList ++ rest) h1) : AW l Y Q k n pc ls st h := by
  intro p e s m args below meth c D dA ad0 h0 A C H locs ad lm hP hE hS hL o1 o2
  subst hst
  have hT := C.2.2.2.2.2.1
  have oA : ∀ v ∈ As, zokv h v := fun v hv => o2 v (List.mem_append_left _ (List.mem_reverse.mpr hv))
  have oB : zokv h (zR (some b)) := o2 _ (List.mem_append_right _ List.mem_cons_self)
  have oR : ∀ v ∈ rest, zokv h v := fun v hv => o2 v (List.mem_append_right _ (List.mem_cons_of_mem _ hv))
  obtain ⟨L, tys, q0, h1, h2, h3, h4, h5, hq⟩ := zP_at hP (n := b) (by rw [hK]; omega)
  have hrecv := va_recv h1 h4 (zCl_at cb hcb) ((zW_at (dA := dA) (ad := ad) (h := h) hq).trans (by rw [zEn_o hK hcb]))
  rw [hcn] at hrecv
  have hA := zA_sub (sz := H.size) hP (fun q hq => C.2.2.2.2.2.2.2.2.2.2.2.2.1 q (Nat.le_trans hS.1 hq))
  have hG : GoodIn zT (wsV (zMy Y).cls idx (zMy Yc).cls (zMy Yc) (zWs Yc)) := by
    refine zT_in (fun w hw => ?_)
    rcases List.mem_append.mp hw with hw | hw
    · simp only [List.mem_cons, List.not_mem_nil, or_false] at hw
      rcases hw with rfl | rfl | rfl | rfl
      · exact hl
      · exact V.1
      · exact V.2
      · exact M.2.1
    · exact zWs_in M w hw
  refine z_goes (vx_runV (As := As.map (zc ad)) (rest := rest.map (zc ad)) (nL := zMn Y) ⟨C.1, C.2.1, C.2.2.2.1, C.2.2.2.2.1, hT⟩ (hc D dA ad H.size) (cwV As.length hT hG rfl rfl rfl ⟨rfl, M.2.2⟩ ⟨hf.1, hf.2.1⟩) ⟨zB_blind, hrecv, fun U hU hW => ⟨rfl, zB_for C hP hE hS (List.forall_mem_cons.mpr ⟨oB, oA⟩) hU hW⟩⟩ rfl (by rw [List.length_map]) hL.1 (by
    show List.map (zc ad) (As.reverse ++ zR (some b) :: rest) = _
    rw [List.map_append, List.map_cons, List.map_reverse]
    rfl) (lv_room (zcat_rest hr)) d ⟨hf.2.2.1, hf.2.2.2⟩) hS hA ?_ ?_
  · intro E h1 ad1 H1 locs1 q ce g1 g2 g3 g4 g5 g6 g7
    have K := kx E h1 g1 p e s m args below meth c D dA ad0 h0 A C H1 locs1 ad1 lm q ce g2 (zE_tr hE g3) g4 (zLO_E g3 o1 hL) (fun v hv => zokv_E g3 (o1 v hv)) g5 g6 g7
    rw [zmap_E g3 oR] at K
    exact K
  · intro v h1 ad1 H1 locs1 g1 g2 g3 g4 g5
    have K := kk v h1 g1 p e s m args below meth c D dA ad0 h0 A C H1 locs1 ad1 lm g2 (zE_tr hE g3) g4 (zLO_E g3 o1 hL) (fun v hv => zokv_E g3 (o1 v hv)) (fun w hw => by
      rcases List.mem_append.mp hw with hw | hw
      · cases v with
        | none => cases hw
        | some x =>
          rw [show (some x).toList = [x] from rfl, List.mem_singleton] at hw
          rw [hw]
          exact g5 x rfl
      · exact zokv_E g3 (oR w hw))
    rw [List.map_append, zmap_E g3 oR] at K
    cases v with
    | none => exact K
    | some x => exact K
