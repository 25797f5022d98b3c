section
-- ===== PART A: goes FIRST, ahead of the names: the tables' words, and 'selects' of the private methods out of them =====
/-- a private method of a class that the tables say can be made, by its rows of tables_1 -/
def lw_okq (q : MethodName × Nat) : Prop := (q.1.cls ≠ "java/lang/invoke/MethodHandle" ∧ q.1.cls ≠ "java/lang/invoke/VarHandle") ∧ Cond.instantiable q.1.cls q.2 ∈ tables_1 ∧ Cond.privateMethod q.1 ∈ tables_1 ∧ Cond.instanceMethod q.1 ∈ tables_1
theorem lw_p0 : lw_okq (⟨"java/lang/Throwable", "fillInStackTrace", "(I)Ljava/lang/Throwable;"⟩, 6) := ⟨⟨by decide +kernel, by decide +kernel⟩, List.mem_of_getElem? (i := 290) (by decide +kernel), List.mem_of_getElem? (i := 288) (by decide +kernel), List.mem_of_getElem? (i := 289) (by decide +kernel)⟩
theorem lw_p1 : lw_okq (⟨"Remotepane", "sessionAt", "(I)LRemotepane$Session;"⟩, 4) := ⟨⟨by decide +kernel, by decide +kernel⟩, List.mem_of_getElem? (i := 32) (by decide +kernel), List.mem_of_getElem? (i := 353) (by decide +kernel), List.mem_of_getElem? (i := 354) (by decide +kernel)⟩
theorem lw_p2 : lw_okq (⟨"Remotepane", "isSession", "(I)Z"⟩, 4) := ⟨⟨by decide +kernel, by decide +kernel⟩, List.mem_of_getElem? (i := 32) (by decide +kernel), List.mem_of_getElem? (i := 357) (by decide +kernel), List.mem_of_getElem? (i := 358) (by decide +kernel)⟩
theorem lw_p3 : lw_okq (⟨"java/util/ArrayList", "add", "(Ljava/lang/Object;[Ljava/lang/Object;I)V"⟩, 3) := ⟨⟨by decide +kernel, by decide +kernel⟩, List.mem_of_getElem? (i := 144) (by decide +kernel), List.mem_of_getElem? (i := 450) (by decide +kernel), List.mem_of_getElem? (i := 451) (by decide +kernel)⟩
theorem lw_p4 : lw_okq (⟨"java/util/ArrayList", "grow", "()[Ljava/lang/Object;"⟩, 3) := ⟨⟨by decide +kernel, by decide +kernel⟩, List.mem_of_getElem? (i := 144) (by decide +kernel), List.mem_of_getElem? (i := 454) (by decide +kernel), List.mem_of_getElem? (i := 455) (by decide +kernel)⟩
theorem lw_p5 : lw_okq (⟨"java/util/ArrayList", "grow", "(I)[Ljava/lang/Object;"⟩, 3) := ⟨⟨by decide +kernel, by decide +kernel⟩, List.mem_of_getElem? (i := 144) (by decide +kernel), List.mem_of_getElem? (i := 458) (by decide +kernel), List.mem_of_getElem? (i := 459) (by decide +kernel)⟩
theorem lw_p6 : lw_okq (⟨"Remotepane", "clientAt", "(I)LRemotepane$Client;"⟩, 4) := ⟨⟨by decide +kernel, by decide +kernel⟩, List.mem_of_getElem? (i := 32) (by decide +kernel), List.mem_of_getElem? (i := 644) (by decide +kernel), List.mem_of_getElem? (i := 645) (by decide +kernel)⟩
theorem lw_p7 : lw_okq (⟨"Remotepane", "passTick", "()I"⟩, 4) := ⟨⟨by decide +kernel, by decide +kernel⟩, List.mem_of_getElem? (i := 32) (by decide +kernel), List.mem_of_getElem? (i := 703) (by decide +kernel), List.mem_of_getElem? (i := 704) (by decide +kernel)⟩
theorem lw_p8 : lw_okq (⟨"Remotepane", "runLine", "()I"⟩, 4) := ⟨⟨by decide +kernel, by decide +kernel⟩, List.mem_of_getElem? (i := 32) (by decide +kernel), List.mem_of_getElem? (i := 728) (by decide +kernel), List.mem_of_getElem? (i := 729) (by decide +kernel)⟩
theorem lw_p9 : lw_okq (⟨"Remotepane", "richestServed", "(I)LRemotepane$Client;"⟩, 4) := ⟨⟨by decide +kernel, by decide +kernel⟩, List.mem_of_getElem? (i := 32) (by decide +kernel), List.mem_of_getElem? (i := 761) (by decide +kernel), List.mem_of_getElem? (i := 762) (by decide +kernel)⟩
theorem lw_p10 : lw_okq (⟨"Remotepane", "canPass", "(LRemotepane$Clipboard;I)Z"⟩, 4) := ⟨⟨by decide +kernel, by decide +kernel⟩, List.mem_of_getElem? (i := 32) (by decide +kernel), List.mem_of_getElem? (i := 924) (by decide +kernel), List.mem_of_getElem? (i := 925) (by decide +kernel)⟩
theorem lw_p11 : lw_okq (⟨"java/util/ArrayList", "fastRemove", "([Ljava/lang/Object;I)V"⟩, 3) := ⟨⟨by decide +kernel, by decide +kernel⟩, List.mem_of_getElem? (i := 144) (by decide +kernel), List.mem_of_getElem? (i := 1023) (by decide +kernel), List.mem_of_getElem? (i := 1024) (by decide +kernel)⟩
theorem lw_p12 : lw_okq (⟨"Remotepane", "nextChange", "(I)LRemotepane$Change;"⟩, 4) := ⟨⟨by decide +kernel, by decide +kernel⟩, List.mem_of_getElem? (i := 32) (by decide +kernel), List.mem_of_getElem? (i := 1068) (by decide +kernel), List.mem_of_getElem? (i := 1069) (by decide +kernel)⟩
def lw_privs_1 : List (MethodName × Nat) := [(⟨"java/lang/Throwable", "fillInStackTrace", "(I)Ljava/lang/Throwable;"⟩, 6), (⟨"Remotepane", "sessionAt", "(I)LRemotepane$Session;"⟩, 4), (⟨"Remotepane", "isSession", "(I)Z"⟩, 4), (⟨"java/util/ArrayList", "add", "(Ljava/lang/Object;[Ljava/lang/Object;I)V"⟩, 3), (⟨"java/util/ArrayList", "grow", "()[Ljava/lang/Object;"⟩, 3), (⟨"java/util/ArrayList", "grow", "(I)[Ljava/lang/Object;"⟩, 3), (⟨"Remotepane", "clientAt", "(I)LRemotepane$Client;"⟩, 4), (⟨"Remotepane", "passTick", "()I"⟩, 4), (⟨"Remotepane", "runLine", "()I"⟩, 4), (⟨"Remotepane", "richestServed", "(I)LRemotepane$Client;"⟩, 4), (⟨"Remotepane", "canPass", "(LRemotepane$Clipboard;I)Z"⟩, 4), (⟨"java/util/ArrayList", "fastRemove", "([Ljava/lang/Object;I)V"⟩, 3), (⟨"Remotepane", "nextChange", "(I)LRemotepane$Change;"⟩, 4)]
theorem lw_r1 : ∀ q ∈ lw_privs_1, lw_okq q := List.forall_mem_cons.mpr ⟨lw_p0, List.forall_mem_cons.mpr ⟨lw_p1, List.forall_mem_cons.mpr ⟨lw_p2, List.forall_mem_cons.mpr ⟨lw_p3, List.forall_mem_cons.mpr ⟨lw_p4, List.forall_mem_cons.mpr ⟨lw_p5, List.forall_mem_cons.mpr ⟨lw_p6, List.forall_mem_cons.mpr ⟨lw_p7, List.forall_mem_cons.mpr ⟨lw_p8, List.forall_mem_cons.mpr ⟨lw_p9, List.forall_mem_cons.mpr ⟨lw_p10, List.forall_mem_cons.mpr ⟨lw_p11, List.forall_mem_cons.mpr ⟨lw_p12, fun _ h => absurd h List.not_mem_nil⟩⟩⟩⟩⟩⟩⟩⟩⟩⟩⟩⟩⟩
def lw_privs : List (MethodName × Nat) := lw_privs_1
def lw_tbl : List Cond := k2_sels lw_privs ++ tables_1
theorem lw_privs_ok : ∀ q ∈ lw_privs, lw_okq q := lw_r1
-- ===== end of PART A; then your names; then what follows =====
/-! ===== BEGIN words of one list among another's, by their places ===== -/
theorem goodIn_r {big : List Cond} (ws : List Cond) (ps : List Nat) (hp : ws = ps.filterMap (fun i => big[i]?)) (h : ws.all goodWord = true) : GoodIn big ws := by
  intro w hw
  have h1 := List.all_eq_true.mp h w hw
  rw [hp] at hw
  obtain ⟨i, -, hi⟩ := List.mem_filterMap.mp hw
  have hm : w ∈ big := by first | exact List.mem_of_getElem? hi | exact List.getElem?_mem hi
  exact ⟨hm, good_of_word h1⟩
theorem goodIn_app {big a b : List Cond} (ha : GoodIn big a) (hb : GoodIn big b) : GoodIn big (a ++ b) := fun w h => (List.mem_append.mp h).elim (ha w) (hb w)
theorem goodIn_ca {big a b : List Cond} {c : Cond} (ha : GoodIn big (c :: a)) (hb : GoodIn big b) : GoodIn big (c :: (a ++ b)) := fun w h => (List.mem_cons.mp h).elim (fun e => ha w (List.mem_cons.mpr (Or.inl e))) (fun h => (List.mem_append.mp h).elim (fun h => ha w (List.mem_cons.mpr (Or.inr h))) (hb w))
theorem goodIn_sub {big ws : List Cond} (hm : ∀ w ∈ ws, w ∈ big) (h : ws.all goodWord = true) : GoodIn big ws := fun w hw => ⟨hm w hw, good_of_word (List.all_eq_true.mp h w hw)⟩
/-! ===== END ===== -/

/-! ===== BEGIN exceptions that leave a method, and their catching by the caller (launches without stack traces) ===== -/
section VXA
/-! The laws vx_back, vx_callV, vx_callS, vx_callSW, vx_throw0, vx_throwS follow proofs of the library, with one case more: JvmDerived/Free/Laws.lean (Back.of_free), Shelf42/LK1.lean (callV, callS), Shelf/KitTraced.lean (throwNew0V, throwNewS). -/
/-- where a method has thrown q: the class by its name, the cell, what was written, the world -/
def vx_T (XC : String → State → State → Prop) (st : State) (q : Addr) (t : State) (mc ms : Nat) (free : Addr → Prop) : Prop :=
  ∃ (E : String) (ce : Cell) (L : List Loc), XC E st t ∧ t.heap[q]? = some ce ∧ ce.vm = .none ∧ st.vm.findClass E = some ce.cls ∧ st.WarmedH t.vm ∧ st.sameButNew ({ t with vm := st.vm } : State) L mc ms ∧ ∀ z ∈ L, free z.base
def vx_Q (Qc : Array Value → State → Outcome → State → Prop) (XC : String → State → State → Prop) (mc ms : Nat) (free : Addr → Prop) : Array Value → State → Outcome → State → Prop := fun a st o t =>
  (Qc a st o t ∧ ∃ L, FrameEnd st o t L mc ms ∧ ∀ q ∈ L, free q.base) ∨ ∃ q, o = .threw q ∧ vx_T XC st q t mc ms free
/-- a callee that returns or throws -/
def vx_Met (l : Launch) (y : MethodName) (ws : List Cond) (rm : Room) (Pc : Array Value → State → Prop) (Qc : Array Value → State → Outcome → State → Prop) (XC : String → State → State → Prop) (mc ms : Nat) (free : Addr → Prop) : Prop :=
  MetFree l y (headSpec ws rm) Pc (fun _ _ _ _ _ => True) (vx_Q Qc XC mc ms free)
def vx_Post (XC : String → State → State → Prop) (mc ms : Nat) (free : Addr → Prop) : Pt → Array Value → Addr → Pt → Prop := fun A a q B =>
  ∃ (g : JFrame) (mk : MethodId) (t : State) (L : List Loc) (E : String) (ce : Cell), B.U.heap = t.heap ∧ B.U.vm = t.vm ∧ XC E (A.U.calling g mk a) t ∧ t.heap[q]? = some ce ∧ ce.vm = .none ∧ A.U.vm.findClass E = some ce.cls ∧ B.locs = A.locs ++ L ∧ (∀ z ∈ L, free z.base) ∧ B.cells = A.cells + mc ∧ B.slots = A.slots + ms
def vx_Back (l : Launch) (R : Room) (p : Program) (e : Env) (below : List Frame) (s : State) (sargs : Array Value) (y : MethodName) (len W9 : Nat)
    (Pre : Pt → Array Value → Prop) (Post : Pt → Array Value → Option Value → Pt → Prop) (PostX : Pt → Array Value → Addr → Pt → Prop) : Prop :=
  ∀ (m : MethodId) (meth : Method) (c : Code) (A : Pt) (g : JFrame) (ig : Instr) (mk : MethodId) (a : Array Value),
    Stand p l e R s m sargs below meth c A.U A.locs A.cells A.slots → g.method = m → g.locals.size = c.maxLocals → decode c.code g.pc = .ok (ig, len) →
    2 * g.monitorRoom + (g.stack.map fun v => v.category).sum ≤ W9 → A.U.methodNamed? y = some mk → Pre A a →
    (∃ (v : Option Value) (B : Pt), Stand p l e R s m sargs below meth c B.U B.locs B.cells B.slots ∧ Post A a v B ∧
      Steps p.tables e below (doInvoke e (A.U.setTop g) [] mk a).1 (B.U.setTop { g with pc := g.pc + len, stack := v.toList ++ g.stack })) ∨
    (∃ (q : Addr) (B : Pt), Stand p l e R s m sargs below meth c B.U B.locs B.cells B.slots ∧ PostX A a q B ∧
      Steps p.tables e below (doInvoke e (A.U.setTop g) [] mk a).1 ((B.U.setTop g).pushFrame (.throwing q)))
section Payer
variable {l : Launch} {R : Room} {p : Program} {e : Env} {below : List Frame} {s : State} {sargs : Array Value} {y : MethodName} {len W9 : Nat}
theorem vx_back {ws : List Cond} {rm : Room} {Pc : Array Value → State → Prop} {Qc : Array Value → State → Outcome → State → Prop} {XC : String → State → State → Prop} {mc ms : Nat} {free : Addr → Prop} {bytes : ByteArray} {maxL : Nat} {ret : Option FieldType}
    (hM : vx_Met l y ws rm Pc Qc XC mc ms free) (hblind : FrameBlind Pc) (hrc : rm.cells = mc) (hrs : rm.slots = ms)
    (hframes : rm.frames + 1 ≤ R.frames) (hlocals : W9 + (maxL + 11) + rm.locals ≤ R.locals)
    (hws : ∀ w ∈ ws, ∀ a' U, s.WarmedH U.vm → w.before a' U = true) (hcode : Cond.code y bytes maxL ret ∈ ws) (hinit : ∀ a' U, s.WarmedH U.vm → (Cond.initialized y.cls).before a' U = true) :
    vx_Back l R p e below s sargs y len W9 (PreOf R mc ms Pc) (PostOf Qc mc ms free) (vx_Post XC mc ms free) := by
  intro m meth c A g ig mk a X hg hsize hdg hW hn hp
  have h1 : (headSpec ws rm).pre.before a A.U = true := atoms_intro fun w hw => hws w hw _ _ X.warmed
  have h2 : (Cond.code y bytes maxL ret).before a A.U = true := hws _ hcode _ _ X.warmed
  have h3 : (Cond.initialized y.cls).before a A.U = true := hinit _ _ X.warmed
  have h4 : A.cells + (headSpec ws rm).room.cells ≤ R.cells := by rw [show (headSpec ws rm).room.cells = mc from hrc]; exact hp.1
  have h5 : A.slots + (headSpec ws rm).room.slots ≤ R.slots := by rw [show (headSpec ws rm).room.slots = ms from hrs]; exact hp.2.1
  have hPc : Pc a (A.U.calling g mk a) := hblind _ _ _ _ hp.2.2
  obtain ⟨U, Ls, c0, s0⟩ := A
  dsimp only [Pt.U, Pt.locs, Pt.cells, Pt.slots] at h1 h2 h3 h4 h5 X hn hPc ⊢
  obtain ⟨methY, cY, hmY, hcY, -, hlY, -, -, -, -⟩ := Cond.code_spec hn h2
  obtain ⟨kY, hkY, -⟩ := className_of_methodNamed hn
  have hinitY : kY.init = .initialized := Cond.initialized_spec (findClass_of_methodNamed hn) hkY h3
  have h : At U g.method c below := by rw [hg]; exact X.here
  have hlocals9 : W9 + (maxL + 11) + (headSpec ws rm).room.locals ≤ R.locals := hlocals
  have happ : (headSpec ws rm).appliesLoose y e.platform (U.calling g mk a) = true :=
    Spec.appliesLoose_calling (g := g) h hdg hn hkY hinitY
      (X.room_calling (g := g) (R' := (headSpec ws rm).room) hsize hmY hcY hframes (by rw [hlY]; omega) h4 h5) h1
  obtain ⟨mid, hmid⟩ := h.above
  have hfr : (U.setTop g).frames = (.java g :: mid) ++ below := by rw [State.frames_setTop' g h.top, hmid]; rfl
  obtain ⟨o, s₂, hsteps, -, hend, hq⟩ := Steps.callFree hM p X.admits X.cas X.clock (acts := []) hfr happ hPc trivial
  have hq' : vx_Q Qc XC mc ms free a (U.calling g mk a) o s₂ := hq
  rw [State.frames_setTop' g h.top] at hend
  obtain ⟨g₀, hg0⟩ := Option.isSome_iff_exists.mp h.top
  obtain ⟨r, hr⟩ := State.topJava?_eq_some.mp hg0
  have hr' : (({ U with heap := s₂.heap, slotsUsed := s₂.slotsUsed } : State).setVm s₂.vm).frames = .java g₀ :: r := hr
  rcases hq' with ⟨hqc, L, hfe, hL⟩ | ⟨q, rfl, E, ce, L, hx, hce, hcv, hcl, hW₂, hsm, hL⟩
  · obtain ⟨⟨v, rfl⟩, hW₂, e2, q2, q3, q4, q5, q6⟩ := id hfe
    have e3 : s₂ = ({ (U.calling g mk a).setFrames s₂.frames with heap := s₂.heap, slotsUsed := s₂.slotsUsed } : State).setVm s₂.vm := by
      have : s₂ = ({ s₂ with vm := (U.calling g mk a).vm } : State).setVm s₂.vm := rfl
      rw [e2] at this
      exact this
    obtain ⟨c₂, i₂, len₂, hc₂, hd₂, hf₂⟩ := hend
    have hW' : U.WarmedH s₂.vm := hW₂
    have hcc : c₂ = c := by
      have h1 : s₂.code? g.method = U.code? g.method := by
        rw [State.code?_eq, State.code?_eq, hW'.alike.method?]
      exact Option.some.inj (hc₂.symm.trans (h1.trans h.code))
    subst hcc
    have hlen : len₂ = len := by rw [hdg] at hd₂; cases hd₂; rfl
    subst hlen
    have hs₂ : s₂ = (({ U with heap := s₂.heap, slotsUsed := s₂.slotsUsed } : State).setVm s₂.vm).setTop { g with pc := g.pc + len₂, stack := v.toList ++ g.stack } := by
      refine e3.trans ?_
      rw [hf₂, State.calling_eq h.top, State.setFrames_setFrames, State.setTop_of_frames _ hr', hr]
      rfl
    have hsame : U.sameButNew ({ U with heap := s₂.heap, slotsUsed := s₂.slotsUsed } : State) L mc ms := by
      refine ⟨?_, q2, q3, q4, q5, q6⟩
      obtain ⟨t, ht, -⟩ := State.frames_cons hr
      show ({ U with heap := s₂.heap, slotsUsed := s₂.slotsUsed } : State) = { U.setFrames U.frames with heap := s₂.heap, slotsUsed := s₂.slotsUsed }
      rw [State.setFrames_self ht]
    subst hg
    refine Or.inl ⟨v, ⟨(({ U with heap := s₂.heap, slotsUsed := s₂.slotsUsed } : State).setVm s₂.vm), Ls ++ L, c0 + mc, s0 + ms⟩,
      ⟨X.admits, X.cas, X.clock, X.frames, X.room, X.hears, X.method, X.code, (X.here.setHeapUsed s₂.heap s₂.slotsUsed).setVm hW'.alike, X.tail, State.WarmedH.trans X.warmed hW', X.limits, X.bytes, X.same.trans (hsame.setVm s.vm)⟩,
      ⟨g, mk, s₂, L, rfl, rfl, hqc, rfl, hL, rfl, rfl⟩, ?_⟩
    show Steps p.tables e below _ ((({ U with heap := s₂.heap, slotsUsed := s₂.slotsUsed } : State).setVm s₂.vm).setTop { g with pc := g.pc + len₂, stack := v.toList ++ g.stack })
    rw [← hs₂]
    exact hsteps
  · obtain ⟨e2, q2, q3, q4, q5, q6⟩ := id hsm
    have e3 : s₂ = ({ (U.calling g mk a).setFrames s₂.frames with heap := s₂.heap, slotsUsed := s₂.slotsUsed } : State).setVm s₂.vm := by
      have : s₂ = ({ s₂ with vm := (U.calling g mk a).vm } : State).setVm s₂.vm := rfl
      rw [e2] at this
      exact this
    have hf₂ : s₂.frames = .throwing q :: .java g :: U.frames.tail := hend
    have hW' : U.WarmedH s₂.vm := hW₂
    have hs₂ : s₂ = ((({ U with heap := s₂.heap, slotsUsed := s₂.slotsUsed } : State).setVm s₂.vm).setTop g).pushFrame (.throwing q) := by
      refine e3.trans ?_
      rw [hf₂, State.calling_eq h.top, State.setFrames_setFrames, State.pushFrame, State.frames_setTop _ hr', State.setTop_of_frames _ hr', State.setFrames_setFrames, hr]
      rfl
    have hsame : U.sameButNew ({ U with heap := s₂.heap, slotsUsed := s₂.slotsUsed } : State) L mc ms := by
      refine ⟨?_, q2, q3, q4, q5, q6⟩
      obtain ⟨t, ht, -⟩ := State.frames_cons hr
      show ({ U with heap := s₂.heap, slotsUsed := s₂.slotsUsed } : State) = { U.setFrames U.frames with heap := s₂.heap, slotsUsed := s₂.slotsUsed }
      rw [State.setFrames_self ht]
    subst hg
    refine Or.inr ⟨q, ⟨(({ U with heap := s₂.heap, slotsUsed := s₂.slotsUsed } : State).setVm s₂.vm), Ls ++ L, c0 + mc, s0 + ms⟩,
      ⟨X.admits, X.cas, X.clock, X.frames, X.room, X.hears, X.method, X.code, (X.here.setHeapUsed s₂.heap s₂.slotsUsed).setVm hW'.alike, X.tail, State.WarmedH.trans X.warmed hW', X.limits, X.bytes, X.same.trans (hsame.setVm s.vm)⟩,
      ⟨g, mk, s₂, L, E, ce, rfl, rfl, hx, hce, hcv, hcl, rfl, hL, rfl, rfl⟩, ?_⟩
    show Steps p.tables e below _ (((({ U with heap := s₂.heap, slotsUsed := s₂.slotsUsed } : State).setVm s₂.vm).setTop g).pushFrame (.throwing q))
    rw [← hs₂]
    exact hsteps
end Payer
section Calls
variable {p : Program} {l : Launch} {e : Env} {R : Room} {s : State} {m : MethodId} {args : Array Value} {below : List Frame} {meth : Method} {c : Code} {T : State} {locs : List Loc} {cells slots : Nat}
theorem vx_callV (X : Stand p l e R s m args below meth c T locs cells slots) (hexec : p.tables.exec = Jvm.exec) {own C : String} {index : Nat} {y : MethodName} {bytes : ByteArray} {maxL : Nat} {ret : Option FieldType}
    (hown : s.vm.findClass own = some m.cls) (hlink : (Cond.methodLink own index y).before args s = true) (hinst : (Cond.instanceMethod y).before args s = true) (hsel : (Cond.selects C y y).before args s = true)
    (hcode : (Cond.code y bytes maxL ret).before args s = true) (hy : y.cls ≠ "java/lang/invoke/MethodHandle" ∧ y.cls ≠ "java/lang/invoke/VarHandle")
    {W9 : Nat} {Pre : Pt → Array Value → Prop} {Post : Pt → Array Value → Option Value → Pt → Prop} {PostX : Pt → Array Value → Addr → Pt → Prop} (hK : vx_Back l R p e below s args y 3 W9 Pre Post PostX)
    {b : Addr} {cellB : Cell} (hcell : T.heap[b]? = some cellB) (hobj : cellB.vm.isStatics = false) (hcls : s.vm.findClass C = some cellB.cls)
    {g : JFrame} (hg : g.method = m) (hsize : g.locals.size = c.maxLocals) {argsL rest : List Value} (hlen : ∀ sig, parseMethodDescriptor y.desc = some sig → argsL.length = sig.parameters.length)
    (hstack : g.stack = argsL.reverse ++ .ref b :: rest) (hW : 2 * g.monitorRoom + (rest.map fun v => v.category).sum ≤ W9) (hdg : decode c.code g.pc = .ok (.invokevirtual index, 3))
    (hpre : ∀ vm₁, s.WarmedH vm₁ → Pre ⟨T.setVm vm₁, locs, cells, slots⟩ (Value.ref b :: argsL).toArray) :
    (∃ (v : Option Value) (vm₁ : Vm) (B : Pt), s.WarmedH vm₁ ∧ Stand p l e R s m args below meth c B.U B.locs B.cells B.slots ∧ Post ⟨T.setVm vm₁, locs, cells, slots⟩ (Value.ref b :: argsL).toArray v B ∧
      ∀ target, Steps p.tables e below (B.U.setTop { g with pc := g.pc + 3, stack := v.toList ++ rest }) target → Steps p.tables e below (T.setTop g) target) ∨
    (∃ (q : Addr) (vm₁ : Vm) (B : Pt), s.WarmedH vm₁ ∧ Stand p l e R s m args below meth c B.U B.locs B.cells B.slots ∧ PostX ⟨T.setVm vm₁, locs, cells, slots⟩ (Value.ref b :: argsL).toArray q B ∧
      Steps p.tables e below (T.setTop g) ((B.U.setTop { g with stack := rest }).pushFrame (.throwing q))) := by
  obtain ⟨mk, methM, hnamed, hmethM, hstM, habM⟩ := Cond.instanceMethod_spec hinst
  obtain ⟨methM', cM, hmethM', -, -, -, -, -, -, hsigM⟩ := Cond.code_spec hnamed hcode
  cases hmethM.symm.trans hmethM'
  obtain ⟨c2, r2, m2, q1, q2, q3, q4, kP, hkP, hkPi⟩ := Cond.selects_spec hsel
  cases hcls.symm.trans q1
  cases (State.methodFound?_of_named hnamed hy).symm.trans q2
  cases hnamed.symm.trans q3
  have hselP : selectMethod e.platform s.vm cellB.cls mk = .method mk := by rw [Launch.admits_selectMethod X.admits]; exact q4
  obtain ⟨vm₁, X₁, hstep₁⟩ := X.invokevirtual hexec hown hlink hnamed hmethM hstM hkP hkPi hy (a := b) (cell := cellB) hcell
    (fun z h => by rw [h] at hobj; cases hobj) hselP hmethM habM hkP hkPi (g := g) hg (argsL := argsL) (rest := rest) (hlen _ hsigM) hstack hdg
  rcases hK m meth c ⟨T.setVm vm₁, locs, cells, slots⟩ { g with stack := rest } (.invokevirtual index) mk (Value.ref b :: argsL).toArray X₁ hg hsize hdg hW (X₁.named hnamed) (hpre vm₁ X₁.warmed) with ⟨v, B, X', hpost, hsteps⟩ | ⟨q, B, X', hpost, hsteps⟩
  · exact Or.inl ⟨v, vm₁, B, X₁.warmed, X', hpost, fun target h => hstep₁ _ fun acts => by rw [doInvoke_state]; exact hsteps.trans h⟩
  · exact Or.inr ⟨q, vm₁, B, X₁.warmed, X', hpost, hstep₁ _ fun acts => by rw [doInvoke_state]; exact hsteps⟩
theorem vx_callS (X : Stand p l e R s m args below meth c T locs cells slots) (hexec : p.tables.exec = Jvm.exec) {own : String} {index : Nat} {y : MethodName} {bytes : ByteArray} {maxL : Nat} {ret : Option FieldType}
    (hown : s.vm.findClass own = some m.cls) (hlink : (Cond.methodLink own index y).before args s = true) (hstat : (Cond.static y).before args s = true) (hinit : (Cond.initialized y.cls).before args s = true)
    (hcode : (Cond.code y bytes maxL ret).before args s = true) (hy : y.cls ≠ "java/lang/invoke/MethodHandle" ∧ y.cls ≠ "java/lang/invoke/VarHandle")
    {W9 : Nat} {Pre : Pt → Array Value → Prop} {Post : Pt → Array Value → Option Value → Pt → Prop} {PostX : Pt → Array Value → Addr → Pt → Prop} (hK : vx_Back l R p e below s args y 3 W9 Pre Post PostX)
    {g : JFrame} (hg : g.method = m) (hsize : g.locals.size = c.maxLocals) {argsL rest : List Value} (hlen : ∀ sig, parseMethodDescriptor y.desc = some sig → argsL.length = sig.parameters.length)
    (hstack : g.stack = argsL.reverse ++ rest) (hW : 2 * g.monitorRoom + (rest.map fun v => v.category).sum ≤ W9) (hdg : decode c.code g.pc = .ok (.invokestatic index, 3))
    (hpre : ∀ vm₁, s.WarmedH vm₁ → Pre ⟨T.setVm vm₁, locs, cells, slots⟩ argsL.toArray) :
    (∃ (v : Option Value) (vm₁ : Vm) (B : Pt), s.WarmedH vm₁ ∧ Stand p l e R s m args below meth c B.U B.locs B.cells B.slots ∧ Post ⟨T.setVm vm₁, locs, cells, slots⟩ argsL.toArray v B ∧
      ∀ target, Steps p.tables e below (B.U.setTop { g with pc := g.pc + 3, stack := v.toList ++ rest }) target → Steps p.tables e below (T.setTop g) target) ∨
    (∃ (q : Addr) (vm₁ : Vm) (B : Pt), s.WarmedH vm₁ ∧ Stand p l e R s m args below meth c B.U B.locs B.cells B.slots ∧ PostX ⟨T.setVm vm₁, locs, cells, slots⟩ argsL.toArray q B ∧
      Steps p.tables e below (T.setTop g) ((B.U.setTop { g with stack := rest }).pushFrame (.throwing q))) := by
  obtain ⟨mk, hnamed⟩ := Cond.code_named hcode
  obtain ⟨methM, cM, hmethM, -, -, -, -, -, -, hsigM⟩ := Cond.code_spec hnamed hcode
  have hstatic : methM.isStatic = true := Cond.static_spec hnamed hmethM hstat
  obtain ⟨kP, hkP, -⟩ := className_of_methodNamed hnamed
  have hinitP : kP.init = .initialized := Cond.initialized_spec (findClass_of_methodNamed hnamed) hkP hinit
  obtain ⟨vm₁, X₁, hstep₁⟩ := X.invokestatic hexec hown hlink hnamed hmethM hstatic hkP hinitP hy (g := g) hg (argsL := argsL) (rest := rest) (hlen _ hsigM) hstack hdg
  rcases hK m meth c ⟨T.setVm vm₁, locs, cells, slots⟩ { g with stack := rest } (.invokestatic index) mk argsL.toArray X₁ hg hsize hdg hW (X₁.named hnamed) (hpre vm₁ X₁.warmed) with ⟨v, B, X', hpost, hsteps⟩ | ⟨q, B, X', hpost, hsteps⟩
  · exact Or.inl ⟨v, vm₁, B, X₁.warmed, X', hpost, fun target h => hstep₁ _ fun acts => by rw [doInvoke_state]; exact hsteps.trans h⟩
  · exact Or.inr ⟨q, vm₁, B, X₁.warmed, X', hpost, hstep₁ _ fun acts => by rw [doInvoke_state]; exact hsteps⟩
end Calls
theorem vx_cls {s : State} {T : State} {vm₁ : Vm} {E : String} {k : ClassId} (hW : s.WarmedH vm₁) (h : (T.setVm vm₁).vm.findClass E = some k) : s.vm.findClass E = some k := by
  have h1 : vm₁.findClass E = some k := h
  rw [hW.alike.findClass] at h1
  exact h1
/-- the method's frame g, with q thrown over it -/
def vx_W (p : Program) (l : Launch) (e : Env) (R : Room) (s : State) (m : MethodId) (args : Array Value) (below : List Frame) (meth : Method) (c : Code) (H : Heap) (locs : List Loc) (cells slots : Nat) (Q : State → Prop) (g : JFrame) (q : Addr) : Prop :=
  ∀ T : State, T.heap = H → Stand p l e R s m args below meth c T locs cells slots → ∃ t, Steps p.tables e below ((T.setTop g).pushFrame (.throwing q)) t ∧ Q t
def vx_Run (p : Program) (l : Launch) (e : Env) (R : Room) (s : State) (m : MethodId) (args : Array Value) (below : List Frame) (meth : Method) (c : Code) (H : Heap) (locs : List Loc) (cells slots mc ms : Nat) (g : JFrame) (rest : List Value) (Qa : State → Outcome → State → Prop) (XC : String → State → State → Prop) (free : Addr → Prop) : Prop :=
  ∀ T : State, T.heap = H → Stand p l e R s m args below meth c T locs cells slots →
    (∃ (v : Option Value) (st₀ t T' : State) (L : List Loc), st₀.heap = H ∧ Stand p l e R s m args below meth c T' (locs ++ L) (cells + mc) (slots + ms) ∧ (∀ q ∈ L, free q.base) ∧ T'.heap = t.heap ∧ T'.vm = t.vm ∧ Qa st₀ (.returned v) t ∧
      Goes p e below T g T' { g with pc := g.pc + 3, stack := v.toList ++ rest }) ∨
    (∃ (q : Addr) (st₀ t T' : State) (L : List Loc) (E : String) (ce : Cell), st₀.heap = H ∧ Stand p l e R s m args below meth c T' (locs ++ L) (cells + mc) (slots + ms) ∧ (∀ z ∈ L, free z.base) ∧ T'.heap = t.heap ∧ T'.vm = t.vm ∧ XC E st₀ t ∧ t.heap[q]? = some ce ∧ ce.vm = .none ∧ s.vm.findClass E = some ce.cls ∧
      Steps p.tables e below (T.setTop g) ((T'.setTop { g with stack := rest }).pushFrame (.throwing q)))
def vx_X {S : Type} (px : S → Prop) (B : String → S → State → Prop) (A : Nat → Prop) : String → State → State → Prop := fun E st t => ∃ u : S, px u ∧ B E u t ∧ va_F A st t
section Runs
variable {p : Program} {l : Launch} {e : Env} {R : Room} {s : State} {m : MethodId} {args : Array Value} {below : List Frame} {meth : Method} {c : Code} {H : Heap} {locs : List Loc} {cells slots : Nat}
variable {y : MethodName} {bytes cc : ByteArray} {maxL nL mc ms n index : Nat} {ret : Option FieldType} {ws : List Cond} {rm : Room} {Pc : Array Value → State → Prop} {Qc : Array Value → State → Outcome → State → Prop} {XC : String → State → State → Prop} {free : Addr → Prop} {Ts : List Cond} {own C : String} {b : Addr} {As rest : List Value} {g : JFrame}
theorem vx_callBack (cb : CallB R s args own index y bytes maxL ret ws rm mc ms n) (hM : vx_Met l y ws rm Pc Qc XC mc ms free) (hbl : FrameBlind Pc) : vx_Back l R p e below s args y 3 8 (PreOf R mc ms Pc) (PostOf Qc mc ms free) (vx_Post XC mc ms free) := by
  obtain ⟨hrc, hrs, hfr, hlo, hws, hcw, -, hini, -⟩ := cb
  exact vx_back (bytes := bytes) (maxL := maxL) (ret := ret) hM hbl hrc hrs hfr hlo hws hcw (fun a' U hW => word_at hW (Or.inl (by first | rfl | simp [Cond.onTables, Cond.keeps, Cond.steady])) hini)
theorem vx_runV (S : CallFix p m c cc nL s args Ts own) (hM : vx_Met l y ws rm Pc Qc XC mc ms free) (cw : CallW R s args own C index y bytes maxL ret ws rm mc ms n) (hp : PreV s H C b Pc As)
    (hg : g.method = m) (hn : As.length = n) (hsize : g.locals.size = nL) (hstack : g.stack = As.reverse ++ .ref b :: rest) (hW : 2 * g.monitorRoom + (rest.map fun v => v.category).sum ≤ 8) (hdg : decode cc g.pc = .ok (.invokevirtual index, 3)) (hf : cells + mc ≤ R.cells ∧ slots + ms ≤ R.slots) :
    vx_Run p l e R s m args below meth c H locs cells slots mc ms g rest (Qc (Value.ref b :: As).toArray) XC free := by
  have hK : vx_Back l R p e below s args y 3 8 (PreOf R mc ms Pc) (PostOf Qc mc ms free) (vx_Post XC mc ms free) := vx_callBack cw.1 hM hp.1
  obtain ⟨⟨-, -, -, -, -, -, hcode, -, hy, hlen, hl⟩, hin, hse⟩ := cw
  obtain ⟨hx, hb, hml, ho, -⟩ := S
  obtain ⟨-, ⟨cellB, hcB, hoB, hclB⟩, hPc⟩ := hp
  intro T hT X
  rcases vx_callV X hx (C := C) (bytes := bytes) (maxL := maxL) (ret := ret) ho hl hin hse hcode hy hK (by rw [hT]; exact hcB) hoB hclB hg (hsize.trans hml.symm) (argsL := As) (rest := rest) (fun sig h => hn.trans (hlen sig h)) hstack hW (by rw [hb]; exact hdg)
    (fun vm₁ hW₁ => ⟨hf.1, hf.2, hPc (T.setVm vm₁) hT hW₁⟩) with ⟨v, vm₁, ⟨U', l2, c2, s2⟩, hW₁, X', ⟨g', mk, t, L, e1, e2, hq, h1, hL, h2, h3⟩, st⟩ | ⟨q, vm₁, ⟨U', l2, c2, s2⟩, hW₁, X', ⟨g', mk, t, L, E, ce, e1, e2, hq, hce, hcv, hcl, h1, hL, h2, h3⟩, st⟩
  · dsimp only [Pt.U, Pt.locs, Pt.cells, Pt.slots] at X' e1 e2 h1 h2 h3 st
    subst h1; subst h2; subst h3
    exact Or.inl ⟨v, (T.setVm vm₁).calling g' mk (Value.ref b :: As).toArray, t, U', L, hT, X', hL, e1, e2, hq, st⟩
  · dsimp only [Pt.U, Pt.locs, Pt.cells, Pt.slots] at X' e1 e2 h1 h2 h3 st hcl
    subst h1; subst h2; subst h3
    exact Or.inr ⟨q, (T.setVm vm₁).calling g' mk (Value.ref b :: As).toArray, t, U', L, E, ce, hT, X', hL, e1, e2, hq, hce, hcv, vx_cls hW₁ hcl, st⟩
theorem vx_runS (S : CallFix p m c cc nL s args Ts own) (hM : vx_Met l y ws rm Pc Qc XC mc ms free) (cw : CallB R s args own index y bytes maxL ret ws rm mc ms n ∧ (Cond.static y).before args s = true) (hp : PreS s H Pc As)
    (hg : g.method = m) (hn : As.length = n) (hsize : g.locals.size = nL) (hstack : g.stack = As.reverse ++ rest) (hW : 2 * g.monitorRoom + (rest.map fun v => v.category).sum ≤ 8) (hdg : decode cc g.pc = .ok (.invokestatic index, 3)) (hf : cells + mc ≤ R.cells ∧ slots + ms ≤ R.slots) :
    vx_Run p l e R s m args below meth c H locs cells slots mc ms g rest (Qc As.toArray) XC free := by
  have hK : vx_Back l R p e below s args y 3 8 (PreOf R mc ms Pc) (PostOf Qc mc ms free) (vx_Post XC mc ms free) := vx_callBack cw.1 hM hp.1
  obtain ⟨⟨-, -, -, -, -, -, hcode, hini, hy, hlen, hl⟩, hstt⟩ := cw
  obtain ⟨hx, hb, hml, ho, -⟩ := S
  intro T hT X
  rcases vx_callS X hx (bytes := bytes) (maxL := maxL) (ret := ret) ho hl hstt hini hcode hy hK hg (hsize.trans hml.symm) (argsL := As) (rest := rest) (fun sig h => hn.trans (hlen sig h)) hstack hW (by rw [hb]; exact hdg)
    (fun vm₁ hW₁ => ⟨hf.1, hf.2, hp.2 (T.setVm vm₁) hT hW₁⟩) with ⟨v, vm₁, ⟨U', l2, c2, s2⟩, hW₁, X', ⟨g', mk, t, L, e1, e2, hq, h1, hL, h2, h3⟩, st⟩ | ⟨q, vm₁, ⟨U', l2, c2, s2⟩, hW₁, X', ⟨g', mk, t, L, E, ce, e1, e2, hq, hce, hcv, hcl, h1, hL, h2, h3⟩, st⟩
  · dsimp only [Pt.U, Pt.locs, Pt.cells, Pt.slots] at X' e1 e2 h1 h2 h3 st
    subst h1; subst h2; subst h3
    exact Or.inl ⟨v, (T.setVm vm₁).calling g' mk As.toArray, t, U', L, hT, X', hL, e1, e2, hq, st⟩
  · dsimp only [Pt.U, Pt.locs, Pt.cells, Pt.slots] at X' e1 e2 h1 h2 h3 st hcl
    subst h1; subst h2; subst h3
    exact Or.inr ⟨q, (T.setVm vm₁).calling g' mk As.toArray, t, U', L, E, ce, hT, X', hL, e1, e2, hq, hce, hcv, vx_cls hW₁ hcl, st⟩
end Runs
section Rows
variable {p : Program} {l : Launch} {e : Env} {R : Room} {s : State} {m : MethodId} {args : Array Value} {below : List Frame} {meth : Method} {c : Code} {H : Heap} {locs : List Loc} {cells slots : Nat} {Q : State → Prop}
variable {mc ms : Nat} {free : Addr → Prop} {A0 A1 : Nat → Prop} {H0 : Heap} {a : Array Value} {pc : Nat} {ls : Array Slot} {st0 rest : List Value}
theorem vx_keep {st₀ t T' : State} {L : List Loc} (h0 : st₀.heap = H) (e1 : T'.heap = t.heap) (hS : va_S A0 H0 H locs) (hA : ∀ q, q < H.size → A1 q → A0 q) (hf : ∀ q, free q → A0 q) (hL : ∀ q ∈ L, free q.base) (hF : va_F A1 st₀ t) :
    H.size ≤ T'.heap.size ∧ (∀ q : Nat, q < H.size → ¬ A1 q → T'.heap[q]? = H[q]?) ∧ va_S A0 H0 T'.heap (locs ++ L) := by
  obtain ⟨hz, hk⟩ := hF
  rw [h0] at hz hk
  exact ⟨by rw [e1]; exact hz, fun q h1 h2 => by rw [e1]; exact hk q h1 h2,
    ⟨Nat.le_trans hS.1 (by rw [e1]; exact hz), fun q h1 h2 => by rw [e1, hk q (Nat.lt_of_lt_of_le h1 hS.1) (fun z => h2 (hA q (Nat.lt_of_lt_of_le h1 hS.1) z))]; exact hS.2.1 q h1 h2, fun q hq => by
      rcases List.mem_append.mp hq with h | h
      · exact hS.2.2 q h
      · exact hf _ (hL q h)⟩⟩
theorem vx_calli {S SX : Type} {post : Int32 → S → Prop} {px : SX → Prop} {B : S → State → Prop} {BX : String → SX → State → Prop} {AX : Nat → Prop} (hr : vx_Run p l e R s m args below meth c H locs cells slots mc ms (F0 m pc ls st0) rest (va_Qi post B A1 a) (vx_X px BX AX) free) (hS : va_S A0 H0 H locs) (hA : ∀ q, q < H.size → A1 q → A0 q) (hf : ∀ q, free q → A0 q) (hAX : ∀ q, q < H.size → AX q → A0 q)
    (kx : ∀ (E : String) (ce : Cell) (q9 : Addr) (u : SX) (t : State) (H1 : Heap) (locs1 : List Loc), t.heap = H1 → s.vm.Alike t.vm → px u → BX E u t → H.size ≤ H1.size → (∀ q : Nat, q < H.size → ¬ AX q → H1[q]? = H[q]?) → va_S A0 H0 H1 locs1 → H1[q9]? = some ce → ce.vm = .none → s.vm.findClass E = some ce.cls → vx_W p l e R s m args below meth c H1 locs1 (cells + mc) (slots + ms) Q (F0 m pc ls rest) q9)
    (kk : ∀ (r : Int32) (u : S) (t : State) (H1 : Heap) (locs1 : List Loc), t.heap = H1 → s.vm.Alike t.vm → post r u → B u t → H.size ≤ H1.size → (∀ q : Nat, q < H.size → ¬ A1 q → H1[q]? = H[q]?) → va_S A0 H0 H1 locs1 → W p l e R s m args below meth c H1 locs1 (cells + mc) (slots + ms) Q (F0 m (pc + 3) ls (.int r :: rest))) : W p l e R s m args below meth c H locs cells slots Q (F0 m pc ls st0) := by
  intro T hT X
  rcases hr T hT X with ⟨v, st₀, t, T', L, h0, X', hL, e1, e2, ⟨⟨r, u, hv, hp, hb⟩, hF⟩, st⟩ | ⟨q, st₀, t, T', L, E, ce, h0, X', hL, e1, e2, ⟨u, hp, hb, hF⟩, hce, hcv, hcl, st⟩
  · cases hv
    obtain ⟨k1, k2, k3⟩ := vx_keep h0 e1 hS hA hf hL hF
    obtain ⟨t2, a1, b1⟩ := kk r u t T'.heap (locs ++ L) e1.symm (by rw [← e2]; exact X'.warmed.alike) hp hb k1 k2 k3 T' rfl X'
    exact ⟨t2, st t2 a1, b1⟩
  · obtain ⟨k1, k2, k3⟩ := vx_keep h0 e1 hS hAX hf hL hF
    obtain ⟨t2, a1, b1⟩ := kx E ce q u t T'.heap (locs ++ L) e1.symm (by rw [← e2]; exact X'.warmed.alike) hp hb k1 k2 k3 (by rw [e1]; exact hce) hcv hcl T' rfl X'
    exact ⟨t2, st.trans a1, b1⟩
theorem vx_calll {S SX : Type} {post : Int64 → S → Prop} {px : SX → Prop} {B : S → State → Prop} {BX : String → SX → State → Prop} {AX : Nat → Prop} (hr : vx_Run p l e R s m args below meth c H locs cells slots mc ms (F0 m pc ls st0) rest (va_Ql post B A1 a) (vx_X px BX AX) free) (hS : va_S A0 H0 H locs) (hA : ∀ q, q < H.size → A1 q → A0 q) (hf : ∀ q, free q → A0 q) (hAX : ∀ q, q < H.size → AX q → A0 q)
    (kx : ∀ (E : String) (ce : Cell) (q9 : Addr) (u : SX) (t : State) (H1 : Heap) (locs1 : List Loc), t.heap = H1 → s.vm.Alike t.vm → px u → BX E u t → H.size ≤ H1.size → (∀ q : Nat, q < H.size → ¬ AX q → H1[q]? = H[q]?) → va_S A0 H0 H1 locs1 → H1[q9]? = some ce → ce.vm = .none → s.vm.findClass E = some ce.cls → vx_W p l e R s m args below meth c H1 locs1 (cells + mc) (slots + ms) Q (F0 m pc ls rest) q9)
    (kk : ∀ (r : Int64) (u : S) (t : State) (H1 : Heap) (locs1 : List Loc), t.heap = H1 → s.vm.Alike t.vm → post r u → B u t → H.size ≤ H1.size → (∀ q : Nat, q < H.size → ¬ A1 q → H1[q]? = H[q]?) → va_S A0 H0 H1 locs1 → W p l e R s m args below meth c H1 locs1 (cells + mc) (slots + ms) Q (F0 m (pc + 3) ls (.long r :: rest))) : W p l e R s m args below meth c H locs cells slots Q (F0 m pc ls st0) := by
  intro T hT X
  rcases hr T hT X with ⟨v, st₀, t, T', L, h0, X', hL, e1, e2, ⟨⟨r, u, hv, hp, hb⟩, hF⟩, st⟩ | ⟨q, st₀, t, T', L, E, ce, h0, X', hL, e1, e2, ⟨u, hp, hb, hF⟩, hce, hcv, hcl, st⟩
  · cases hv
    obtain ⟨k1, k2, k3⟩ := vx_keep h0 e1 hS hA hf hL hF
    obtain ⟨t2, a1, b1⟩ := kk r u t T'.heap (locs ++ L) e1.symm (by rw [← e2]; exact X'.warmed.alike) hp hb k1 k2 k3 T' rfl X'
    exact ⟨t2, st t2 a1, b1⟩
  · obtain ⟨k1, k2, k3⟩ := vx_keep h0 e1 hS hAX hf hL hF
    obtain ⟨t2, a1, b1⟩ := kx E ce q u t T'.heap (locs ++ L) e1.symm (by rw [← e2]; exact X'.warmed.alike) hp hb k1 k2 k3 (by rw [e1]; exact hce) hcv hcl T' rfl X'
    exact ⟨t2, st.trans a1, b1⟩
theorem vx_callf {S SX : Type} {post : UInt32 → S → Prop} {px : SX → Prop} {B : S → State → Prop} {BX : String → SX → State → Prop} {AX : Nat → Prop} (hr : vx_Run p l e R s m args below meth c H locs cells slots mc ms (F0 m pc ls st0) rest (va_Qf post B A1 a) (vx_X px BX AX) free) (hS : va_S A0 H0 H locs) (hA : ∀ q, q < H.size → A1 q → A0 q) (hf : ∀ q, free q → A0 q) (hAX : ∀ q, q < H.size → AX q → A0 q)
    (kx : ∀ (E : String) (ce : Cell) (q9 : Addr) (u : SX) (t : State) (H1 : Heap) (locs1 : List Loc), t.heap = H1 → s.vm.Alike t.vm → px u → BX E u t → H.size ≤ H1.size → (∀ q : Nat, q < H.size → ¬ AX q → H1[q]? = H[q]?) → va_S A0 H0 H1 locs1 → H1[q9]? = some ce → ce.vm = .none → s.vm.findClass E = some ce.cls → vx_W p l e R s m args below meth c H1 locs1 (cells + mc) (slots + ms) Q (F0 m pc ls rest) q9)
    (kk : ∀ (r : UInt32) (u : S) (t : State) (H1 : Heap) (locs1 : List Loc), t.heap = H1 → s.vm.Alike t.vm → post r u → B u t → H.size ≤ H1.size → (∀ q : Nat, q < H.size → ¬ A1 q → H1[q]? = H[q]?) → va_S A0 H0 H1 locs1 → W p l e R s m args below meth c H1 locs1 (cells + mc) (slots + ms) Q (F0 m (pc + 3) ls (.float r :: rest))) : W p l e R s m args below meth c H locs cells slots Q (F0 m pc ls st0) := by
  intro T hT X
  rcases hr T hT X with ⟨v, st₀, t, T', L, h0, X', hL, e1, e2, ⟨⟨r, u, hv, hp, hb⟩, hF⟩, st⟩ | ⟨q, st₀, t, T', L, E, ce, h0, X', hL, e1, e2, ⟨u, hp, hb, hF⟩, hce, hcv, hcl, st⟩
  · cases hv
    obtain ⟨k1, k2, k3⟩ := vx_keep h0 e1 hS hA hf hL hF
    obtain ⟨t2, a1, b1⟩ := kk r u t T'.heap (locs ++ L) e1.symm (by rw [← e2]; exact X'.warmed.alike) hp hb k1 k2 k3 T' rfl X'
    exact ⟨t2, st t2 a1, b1⟩
  · obtain ⟨k1, k2, k3⟩ := vx_keep h0 e1 hS hAX hf hL hF
    obtain ⟨t2, a1, b1⟩ := kx E ce q u t T'.heap (locs ++ L) e1.symm (by rw [← e2]; exact X'.warmed.alike) hp hb k1 k2 k3 (by rw [e1]; exact hce) hcv hcl T' rfl X'
    exact ⟨t2, st.trans a1, b1⟩
theorem vx_calld {S SX : Type} {post : UInt64 → S → Prop} {px : SX → Prop} {B : S → State → Prop} {BX : String → SX → State → Prop} {AX : Nat → Prop} (hr : vx_Run p l e R s m args below meth c H locs cells slots mc ms (F0 m pc ls st0) rest (va_Qd post B A1 a) (vx_X px BX AX) free) (hS : va_S A0 H0 H locs) (hA : ∀ q, q < H.size → A1 q → A0 q) (hf : ∀ q, free q → A0 q) (hAX : ∀ q, q < H.size → AX q → A0 q)
    (kx : ∀ (E : String) (ce : Cell) (q9 : Addr) (u : SX) (t : State) (H1 : Heap) (locs1 : List Loc), t.heap = H1 → s.vm.Alike t.vm → px u → BX E u t → H.size ≤ H1.size → (∀ q : Nat, q < H.size → ¬ AX q → H1[q]? = H[q]?) → va_S A0 H0 H1 locs1 → H1[q9]? = some ce → ce.vm = .none → s.vm.findClass E = some ce.cls → vx_W p l e R s m args below meth c H1 locs1 (cells + mc) (slots + ms) Q (F0 m pc ls rest) q9)
    (kk : ∀ (r : UInt64) (u : S) (t : State) (H1 : Heap) (locs1 : List Loc), t.heap = H1 → s.vm.Alike t.vm → post r u → B u t → H.size ≤ H1.size → (∀ q : Nat, q < H.size → ¬ A1 q → H1[q]? = H[q]?) → va_S A0 H0 H1 locs1 → W p l e R s m args below meth c H1 locs1 (cells + mc) (slots + ms) Q (F0 m (pc + 3) ls (.double r :: rest))) : W p l e R s m args below meth c H locs cells slots Q (F0 m pc ls st0) := by
  intro T hT X
  rcases hr T hT X with ⟨v, st₀, t, T', L, h0, X', hL, e1, e2, ⟨⟨r, u, hv, hp, hb⟩, hF⟩, st⟩ | ⟨q, st₀, t, T', L, E, ce, h0, X', hL, e1, e2, ⟨u, hp, hb, hF⟩, hce, hcv, hcl, st⟩
  · cases hv
    obtain ⟨k1, k2, k3⟩ := vx_keep h0 e1 hS hA hf hL hF
    obtain ⟨t2, a1, b1⟩ := kk r u t T'.heap (locs ++ L) e1.symm (by rw [← e2]; exact X'.warmed.alike) hp hb k1 k2 k3 T' rfl X'
    exact ⟨t2, st t2 a1, b1⟩
  · obtain ⟨k1, k2, k3⟩ := vx_keep h0 e1 hS hAX hf hL hF
    obtain ⟨t2, a1, b1⟩ := kx E ce q u t T'.heap (locs ++ L) e1.symm (by rw [← e2]; exact X'.warmed.alike) hp hb k1 k2 k3 (by rw [e1]; exact hce) hcv hcl T' rfl X'
    exact ⟨t2, st.trans a1, b1⟩
theorem vx_callv {S SX : Type} {post : S → Prop} {px : SX → Prop} {B : S → State → Prop} {BX : String → SX → State → Prop} {AX : Nat → Prop} (hr : vx_Run p l e R s m args below meth c H locs cells slots mc ms (F0 m pc ls st0) rest (va_Qv post B A1 a) (vx_X px BX AX) free) (hS : va_S A0 H0 H locs) (hA : ∀ q, q < H.size → A1 q → A0 q) (hf : ∀ q, free q → A0 q) (hAX : ∀ q, q < H.size → AX q → A0 q)
    (kx : ∀ (E : String) (ce : Cell) (q9 : Addr) (u : SX) (t : State) (H1 : Heap) (locs1 : List Loc), t.heap = H1 → s.vm.Alike t.vm → px u → BX E u t → H.size ≤ H1.size → (∀ q : Nat, q < H.size → ¬ AX q → H1[q]? = H[q]?) → va_S A0 H0 H1 locs1 → H1[q9]? = some ce → ce.vm = .none → s.vm.findClass E = some ce.cls → vx_W p l e R s m args below meth c H1 locs1 (cells + mc) (slots + ms) Q (F0 m pc ls rest) q9)
    (kk : ∀ (u : S) (t : State) (H1 : Heap) (locs1 : List Loc), t.heap = H1 → s.vm.Alike t.vm → post u → B u t → H.size ≤ H1.size → (∀ q : Nat, q < H.size → ¬ A1 q → H1[q]? = H[q]?) → va_S A0 H0 H1 locs1 → W p l e R s m args below meth c H1 locs1 (cells + mc) (slots + ms) Q (F0 m (pc + 3) ls (rest))) : W p l e R s m args below meth c H locs cells slots Q (F0 m pc ls st0) := by
  intro T hT X
  rcases hr T hT X with ⟨v, st₀, t, T', L, h0, X', hL, e1, e2, ⟨⟨u, hv, hp, hb⟩, hF⟩, st⟩ | ⟨q, st₀, t, T', L, E, ce, h0, X', hL, e1, e2, ⟨u, hp, hb, hF⟩, hce, hcv, hcl, st⟩
  · cases hv
    obtain ⟨k1, k2, k3⟩ := vx_keep h0 e1 hS hA hf hL hF
    obtain ⟨t2, a1, b1⟩ := kk u t T'.heap (locs ++ L) e1.symm (by rw [← e2]; exact X'.warmed.alike) hp hb k1 k2 k3 T' rfl X'
    exact ⟨t2, st t2 a1, b1⟩
  · obtain ⟨k1, k2, k3⟩ := vx_keep h0 e1 hS hAX hf hL hF
    obtain ⟨t2, a1, b1⟩ := kx E ce q u t T'.heap (locs ++ L) e1.symm (by rw [← e2]; exact X'.warmed.alike) hp hb k1 k2 k3 (by rw [e1]; exact hce) hcv hcl T' rfl X'
    exact ⟨t2, st.trans a1, b1⟩
/-- caught by the row x of this method's table; the rows ahead don't take it -/
theorem vx_catch {own name : String} {E : String} {ce : Cell} {q : Addr} (hown : s.vm.findClass own = some m.cls) (pre : List ExceptionTableEntry) (x : ExceptionTableEntry) (suf : List ExceptionTableEntry) (hsplit : c.exceptionTable.toList = pre ++ x :: suf)
    (hpass : ∀ z ∈ pre, covers z pc = false ∨ (z.catchType ≠ 0 ∧ ∃ nm : String, (Cond.classLink own z.catchType nm).before args s = true ∧ va_Nc E nm s)) (hx : covers x pc = true) (h0 : x.catchType ≠ 0)
    (hlink : (Cond.classLink own x.catchType name).before args s = true) (hcast : (Cond.castable E name).before args s = true) (hcell : H[q]? = some ce) (hv : ce.vm = .none) (hcl : s.vm.findClass E = some ce.cls)
    (kk : W p l e R s m args below meth c H locs cells slots Q (F0 m x.handlerPc ls [.ref q])) : vx_W p l e R s m args below meth c H locs cells slots Q (F0 m pc ls rest) q := by
  intro T hT X
  have hpl : e.platform.magicAccessors = ({} : Platform).magicAccessors := by rw [X.admits.platform]
  obtain ⟨c3, c4, hc3, hc4, hasg⟩ := Cond.castable_spec hcast
  cases Option.some.inj (hc3.symm.trans hcl)
  obtain ⟨c5, hc5, hcl5⟩ := Cond.classLink_spec hown hlink e.platform hpl
  cases Option.some.inj (hc4.symm.trans hc5)
  obtain ⟨vm', X', st⟩ := X.thenCaughtThrough q (g := F0 m pc ls rest) rfl (Steps.refl _) (by rw [hT]; exact hcell) (by rw [hv]; rfl) (by obtain ⟨k9, h9, -⟩ := Vm.findClass_spec hcl; exact ⟨k9, h9⟩) pre x suf hsplit
    (fun z hz => by
      rcases hpass z hz with h | ⟨hz0, nm, hl1, hn1⟩
      · exact Or.inl h
      · obtain ⟨c6, hc6, hcl6⟩ := Cond.classLink_spec hown hl1 e.platform hpl
        obtain ⟨a8, b8, h1, h2, h3⟩ := hn1
        cases Option.some.inj (h1.symm.trans hcl)
        cases Option.some.inj (h2.symm.trans hc6)
        exact Or.inr ⟨hz0, _, hcl6, h3⟩) hx (Or.inr ⟨h0, c4, hcl5, hasg⟩)
  obtain ⟨t, a1, b1⟩ := kk (T.setVm vm') hT X'
  exact ⟨t, st.trans a1, b1⟩
end Rows
section Ends
variable {p : Program} {l : Launch} {e : Env} {R : Room} {s : State} {m : MethodId} {args : Array Value} {below : List Frame} {meth : Method} {c : Code} {H : Heap} {locs : List Loc} {cells slots : Nat} {Q : State → Prop}
variable {mc ms : Nat} {free : Addr → Prop} {A0 A1 : Nat → Prop} {H0 : Heap} {a : Array Value} {ls : Array Slot} {st0 rest : List Value}
variable {Qc : Array Value → State → Outcome → State → Prop} {XC : String → State → State → Prop}
/-- what a body that may throw owes at its end -/
def vx_MQ (below : List Frame) (Qc : Array Value → State → Outcome → State → Prop) (XC : String → State → State → Prop) (a : Array Value) (s : State) (mc ms : Nat) (free : Addr → Prop) : State → Prop := fun t =>
  ∃ o, t.status = .running ∧ Ended t below o ∧ vx_Q Qc XC mc ms free a s o t
theorem vx_ret {g : JFrame} {mc ms : Nat} (k : W p l e R s m args below meth c H locs cells slots (MQ below Qc args s mc ms free) g) : W p l e R s m args below meth c H locs cells slots (vx_MQ below Qc XC args s mc ms free) g := by
  intro T hT X
  obtain ⟨t, a1, o, b1, b2, b3, b4⟩ := k T hT X
  exact ⟨t, a1, o, b1, b2, Or.inl ⟨b3, b4⟩⟩
/-- not caught here: it goes on to the caller -/
theorem vx_widen {g : JFrame} {q : Addr} {k n : Nat} (h1 : cells ≤ k) (h2 : slots ≤ n) (kk : vx_W p l e R s m args below meth c H locs k n Q g q) : vx_W p l e R s m args below meth c H locs cells slots Q g q := fun T hT X => kk T hT (stand_widen X h1 h2)
theorem vx_out {pc : Nat} {E : String} {ce : Cell} {q : Addr} {mc ms : Nat} (hout : ∀ x ∈ c.exceptionTable.toList, covers x pc = false) (hlocks : meth.locks = false) (hcell : H[q]? = some ce) (hv : ce.vm = .none) (hcl : s.vm.findClass E = some ce.cls)
    (hx : ∀ t : State, t.heap = H → s.vm.Alike t.vm → XC E s t) (hf : ∀ z ∈ locs, free z.base) (hc : cells ≤ mc) (hs : slots ≤ ms) :
    vx_W p l e R s m args below meth c H locs cells slots (vx_MQ below Qc XC args s mc ms free) (F0 m pc ls rest) q := by
  intro T hT X
  obtain ⟨st1, hrun, hend, hW, hsm⟩ := X.leaveThrown q (g := F0 m pc ls rest) rfl rfl rfl hout hlocks
  have hcell9 : (T.setFrames (.throwing q :: below)).heap[q]? = some ce := by
    show T.heap[q]? = some ce
    rw [hT]; exact hcell
  exact ⟨_, st1, .threw q, hrun, hend, Or.inr ⟨q, rfl, E, ce, locs, hx _ hT hW.alike, hcell9, hv, hcl, hW, hsm.mono hc hs, hf⟩⟩
theorem vx_frame {U : State} {k n : Nat} (h : s.sameButNew ({ U with vm := s.vm } : State) locs k n) : s.heap.size ≤ U.heap.size ∧ ∀ q : Nat, q < s.heap.size → (∀ z ∈ locs, z.base ≠ q) → U.heap[q]? = s.heap[q]? := by
  obtain ⟨-, h2, -, -, -, h6⟩ := h
  refine ⟨h2, fun q hq hz => ?_⟩
  obtain ⟨c9, e1, e2, e3, e4⟩ := h6 q _ (Array.getElem?_eq_getElem hq)
  have hs : c9.slots = (s.heap[q]).slots := Array.ext_getElem? fun i => e4 i fun hm => hz _ hm rfl
  have h9 : c9 = s.heap[q] := by
    rw [hs] at e2
    exact e2
  have e5 : U.heap[q]? = some c9 := e1
  rw [e5, h9, Array.getElem?_eq_getElem hq]
/-- the words of a throw but the four that speak of the heap -/
def vx_no (w : Cond) : Bool := decide (w ≠ .isRef (.static Bundle.tN "UNASSIGNED_STACK" Bundle.steD)) && decide (w ≠ .isRef (.static Bundle.tN "SUPPRESSED_SENTINEL" Bundle.listD)) && decide (w ≠ .laysStatic Bundle.tN "UNASSIGNED_STACK" Bundle.steD) && decide (w ≠ .laysStatic Bundle.tN "SUPPRESSED_SENTINEL" Bundle.listD)
def vx_at0 (own : String) (ic : Nat) (X : String) (names : List String) : List Cond := (Bundle.ownAtoms0 own ic X names).filter vx_no
def vx_atS (own : String) (ic : Nat) (X : String) (names : List String) : List Cond := (Bundle.ownAtoms own ic X names).filter vx_no
/-- a word that the tables alone decide, or a good one -/
def vx_ot (w : Cond) : Bool := w.onTables || goodWord w
theorem vx_ot_at {args a' : Array Value} {s U : State} {w : Cond} (hW : s.WarmedH U.vm) (hvm : s.vm = U.vm) (hg : vx_ot w = true) (h : w.before args s = true) : w.before a' U = true := by
  simp only [vx_ot, Bool.or_eq_true] at hg
  rcases hg with hg | hg
  · exact va_tabs hg hvm h
  · exact word_at hW (good_of_word hg) h
/-- a list's words: the good ones out of the method's own list, the others by premises of their own -/
theorem vx_hat {args : Array Value} {s : State} {L B : List Cond} (h1 : ∀ w ∈ L.filter goodWord, w.before args s = true) (h2 : ∀ w ∈ L.filter (fun w => !goodWord w), w ∈ B) (h3 : ∀ w ∈ B, w.before args s = true) : ∀ w ∈ L, w.before args s = true := by
  intro w hw
  by_cases g : goodWord w = true
  · exact h1 w (List.mem_filter.mpr ⟨hw, g⟩)
  · refine h3 w (h2 w (List.mem_filter.mpr ⟨hw, ?_⟩))
    show (!goodWord w) = true
    cases hgw : goodWord w
    · rfl
    · exact absurd hgw g
theorem vx_c {args : Array Value} {s : State} {w : Cond} {B : List Cond} (h : w.before args s = true) (t : ∀ w ∈ B, w.before args s = true) : ∀ w' ∈ w :: B, w'.before args s = true := fun w' h' => (List.mem_cons.mp h').elim (fun e => by rw [e]; exact h) (t w')
theorem vx_n {args : Array Value} {s : State} : ∀ w ∈ ([] : List Cond), w.before args s = true := fun _ h => nomatch h
theorem vx_own {args : Array Value} {s : State} {L : List Cond} (h1 : ∀ w ∈ L.filter vx_no, w.before args s = true)
    (hU : (Cond.isRef (.static Bundle.tN "UNASSIGNED_STACK" Bundle.steD)).before args s = true) (hN : (Cond.isRef (.static Bundle.tN "SUPPRESSED_SENTINEL" Bundle.listD)).before args s = true)
    (lU : (Cond.laysStatic Bundle.tN "UNASSIGNED_STACK" Bundle.steD).before args s = true) (lN : (Cond.laysStatic Bundle.tN "SUPPRESSED_SENTINEL" Bundle.listD).before args s = true) : ∀ w ∈ L, w.before args s = true := by
  intro w hw
  by_cases e1 : w = .isRef (.static Bundle.tN "UNASSIGNED_STACK" Bundle.steD)
  · rw [e1]; exact hU
  · by_cases e2 : w = .isRef (.static Bundle.tN "SUPPRESSED_SENTINEL" Bundle.listD)
    · rw [e2]; exact hN
    · by_cases e3 : w = .laysStatic Bundle.tN "UNASSIGNED_STACK" Bundle.steD
      · rw [e3]; exact lU
      · by_cases e4 : w = .laysStatic Bundle.tN "SUPPRESSED_SENTINEL" Bundle.listD
        · rw [e4]; exact lN
        · exact h1 w (List.mem_filter.mpr ⟨hw, by unfold vx_no; rw [decide_eq_true e1, decide_eq_true e2, decide_eq_true e3, decide_eq_true e4]; rfl⟩)
/-- where a static field lies, its class's statics cell in H -/
def vx_L (C n d : String) (A : Nat → Prop) (U : State) (H : Heap) : Prop := ∃ (c : ClassId) (k : Class) (i : Nat) (f : Field) (a : Nat) (cell : Cell), U.vm.findClass C = some c ∧ U.fieldFound? C n d = some (c, k, i, f) ∧ f.isStatic = true ∧ k.statics = some a ∧ H[a]? = some cell ∧ cell.vm.isStatics = true ∧ cell.cls = c ∧ f.slot < cell.slots.size ∧ k.staticTypes[f.slot]? = some f.type ∧ ¬ A a
theorem vx_L.moved {C n d : String} {A : Nat → Prop} {u U : State} {H : Heap} (hvm : u.vm.Alike U.vm) (h : vx_L C n d A u H) : vx_L C n d A U H := by
  obtain ⟨c, k, i, f, a, cell, h1, h2, h3, h4, h5, h6, h7, h8, h9, h10⟩ := h
  obtain ⟨k', hi', he⟩ := State.fieldFound?_setVm hvm h2
  exact ⟨c, k', i, f, a, cell, by rw [hvm.findClass]; exact h1, hi', h3, by rw [he]; exact h4, h5, h6, h7, h8, by rw [he]; exact h9, h10⟩
theorem vx_L.kept {C n d : String} {A : Nat → Prop} {U : State} {H H1 : Heap} (h : vx_L C n d A U H) (hq : ∀ a : Nat, a < H.size → ¬ A a → H1[a]? = H[a]?) : vx_L C n d A U H1 := by
  obtain ⟨c, k, i, f, a, cell, h1, h2, h3, h4, h5, h6, h7, h8, h9, h10⟩ := h
  exact ⟨c, k, i, f, a, cell, h1, h2, h3, h4, by rw [hq a (Array.getElem?_eq_some_iff.mp h5).1 h10]; exact h5, h6, h7, h8, h9, h10⟩
theorem vx_L.narrow {C n d : String} {A B : Nat → Prop} {U : State} {H : Heap} (h : vx_L C n d A U H) (hAB : ∀ q, B q → A q) : vx_L C n d B U H := by
  obtain ⟨c, k, i, f, a, cell, h1, h2, h3, h4, h5, h6, h7, h8, h9, h10⟩ := h
  exact ⟨c, k, i, f, a, cell, h1, h2, h3, h4, h5, h6, h7, h8, h9, fun z => h10 (hAB _ z)⟩
theorem vx_L.word {C n d : String} {A : Nat → Prop} {s : State} {args : Array Value} (h : vx_L C n d A s s.heap) : (Cond.laysStatic C n d).before args s = true := by
  obtain ⟨c, k, i, f, a, cell, h1, h2, h3, h4, h5, h6, h7, h8, h9, -⟩ := h
  show (Cond.laysStatic C n d).holds args s none s [] = true
  exact Cond.laysStatic_of h1 h2 h3 h4 h5 h6 h7 h8 h9
/-- .. and what it holds: null or some reference -/
def vx_Zq (C n d : String) (A : Nat → Prop) (U : State) (H : Heap) : Prop := va_Zq C n d A U H ∧ vx_L C n d A U H
theorem vx_Zq.moved {C n d : String} {A : Nat → Prop} {u U : State} {H : Heap} (hvm : u.vm.Alike U.vm) (h : vx_Zq C n d A u H) : vx_Zq C n d A U H := ⟨va_Zq.moved hvm h.1, vx_L.moved hvm h.2⟩
theorem vx_Zq.kept {C n d : String} {A : Nat → Prop} {U : State} {H H1 : Heap} (h : vx_Zq C n d A U H) (hq : ∀ a : Nat, a < H.size → ¬ A a → H1[a]? = H[a]?) : vx_Zq C n d A U H1 := ⟨va_Zq.kept h.1 hq, vx_L.kept h.2 hq⟩
theorem vx_Zq.narrow {C n d : String} {A B : Nat → Prop} {U : State} {H : Heap} (h : vx_Zq C n d A U H) (hAB : ∀ q, B q → A q) : vx_Zq C n d B U H := ⟨va_Zq.narrow h.1 hAB, vx_L.narrow h.2 hAB⟩
theorem vx_Zqof {args : Array Value} {s : State} {C n d : String} {A : Nat → Prop} (hl : (Cond.laysStatic C n d).before args s = true) (hini : (Cond.initialized C).before args s = true) (h : (Cond.isRef (.static C n d)).before args s = true) (hA : ∀ a : Nat, a < s.heap.size → ¬ A a) : vx_Zq C n d A s s.heap := by
  refine ⟨va_Zqof hl hini h hA, ?_⟩
  obtain ⟨c, k, i, f, a, cell, h1, h2, h3, h4, h5, h6, h7, h8, h9⟩ := Cond.laysStatic_spec hl
  exact ⟨c, k, i, f, a, cell, h1, h2, h3, h4, h5, h6, h7, h8, h9, hA a (Array.getElem?_eq_some_iff.mp h5).1⟩
theorem vx_isRef {C n d : String} {v : Value} {A : Nat → Prop} {s : State} {args : Array Value} (h : va_Z C n d v A s s.heap) (hv : v.isRef = true) : (Cond.isRef (.static C n d)).before args s = true := by
  obtain ⟨cf, kf, fi, f, a, cell, h1, h2, h3, h4, h5, h6, h7, -⟩ := h
  have he : (Term.static C n d).eval args s none [] s = some v := by
    simp [Term.eval, State.fieldNamed?, h1, h2, h4, h5, h6, h7]
  simp only [Cond.before, Cond.holds, Cond.value, he]
  cases v <;> simp_all [Value.isRef]
theorem vx_isRefq {C n d : String} {A : Nat → Prop} {s : State} {args : Array Value} (h : va_Zq C n d A s s.heap) : (Cond.isRef (.static C n d)).before args s = true := by
  rcases h with h | ⟨t, h⟩
  · exact vx_isRef h rfl
  · exact vx_isRef h rfl
/-- the same frame, seen from here: as if the method were called anew in this heap -/
theorem vx_rebase {T : State} (X : Stand p l e R s m args below meth c T locs cells slots) {R' : Room} (hf : R'.frames ≤ R.frames) (hl : R'.locals ≤ R.locals) (hc : cells + R'.cells ≤ R.cells) (hs : slots + R'.slots ≤ R.slots) :
    Stand p l e R' ((T.setVm s.vm).setFrames (.invoking m args :: below)) m args below meth c T [] 0 0 := by
  have htop : (T.setVm s.vm).topJava?.isSome := X.here.top
  have hF : ((T.setVm s.vm).setFrames (.invoking m args :: below)).frames = .invoking m args :: below := State.frames_setFrames _ (State.cur_lt_of_top htop)
  obtain ⟨g₀, hg0⟩ := Option.isSome_iff_exists.mp htop
  obtain ⟨r, hr⟩ := State.topJava?_eq_some.mp hg0
  have hl9 : e.platform.stackLimits (T.setVm s.vm).me = e.platform.stackLimits s.me := X.limits
  have hb9 : (T.setVm s.vm).me.stackBytes = s.me.stackBytes := X.bytes
  refine ⟨X.admits, X.cas, X.clock, hF, ?_, X.hears, X.method, X.code, X.here, X.tail, X.warmed, ?_, ?_, ?_⟩
  · have h := X.room
    have hU : ((T.setVm s.vm).setFrames (.invoking m args :: below)).localsInUse = s.localsInUse := by
      rw [State.localsInUse_invoking hF (meth := meth) (c := c) X.method X.code, State.localsInUse_invoking X.frames X.method X.code]
    simp only [State.hasRoom, Bool.and_eq_true, decide_eq_true_eq] at h ⊢
    obtain ⟨⟨⟨⟨h1, h2, h3, h4, h5, h6⟩, h7⟩, h8⟩, h9⟩ := h
    rw [X.frames, List.length_cons] at h2 h3
    have q1 := X.heapSize
    have q2 := X.used
    simp only [hF, hU, List.length_cons, State.stackLimits_setFrames, State.stackBytes_setFrames, hl9, hb9]
    refine ⟨⟨⟨⟨by omega, by omega, by omega, by omega, by omega, h6⟩, ?_⟩, ?_⟩, X.book⟩
    · show T.heap.size + R'.cells ≤ e.platform.maxCells
      omega
    · show T.slotsUsed + R'.slots ≤ e.platform.maxSlots
      omega
  · rw [State.stackLimits_setFrames]; rfl
  · rw [State.stackBytes_setFrames]; rfl
  · refine ⟨?_, Nat.le_refl _, Nat.le_refl _, ?_, ?_, fun a c9 h9 => ⟨c9, h9, rfl, rfl, fun _ _ => rfl⟩⟩
    · obtain ⟨t, ht, -⟩ := State.frames_cons hr
      show T.setVm s.vm = { ((T.setVm s.vm).setFrames (.invoking m args :: below)).setFrames (T.setVm s.vm).frames with heap := T.heap, slotsUsed := T.slotsUsed }
      rw [State.setFrames_setFrames, State.setFrames_self ht]
      rfl
    · show T.slotsUsed = T.slotsUsed + ((T.heap.toList.drop T.heap.size).map (·.slots.size)).sum
      rw [List.drop_eq_nil_of_le (Nat.le_of_eq Array.length_toList)]
      rfl
    · show ((T.heap.toList.drop T.heap.size).map (·.slots.size)).sum ≤ 0
      rw [List.drop_eq_nil_of_le (Nat.le_of_eq Array.length_toList)]
      exact Nat.le_refl _
/-- 'throw new E()': new; dup; invokespecial; athrow -/
theorem vx_throw0 {cc : ByteArray} {pc : Nat} (hexec : p.tables.exec = Jvm.exec) (hb : c.code = cc) (hl : l.stackTraces = false) {own cls : String} {names : List String} {ik ic mc ms : Nat} {A : Nat → Prop}
    (hown : s.vm.findClass own = some m.cls) (hcls : Bundle.fit cls = true) (hnames : ∀ n ∈ names, Bundle.fit n = true)
    (hk : (Cond.classLink own ik cls).before args s = true) (hini : (Cond.initialized cls).before args s = true) (hat : ∀ w ∈ vx_at0 own ic cls names, w.before args s = true)
    (hgood : ∀ w ∈ Cond.classLink own ik cls :: Cond.initialized cls :: vx_at0 own ic cls names, vx_ot w = true)
    (hU : vx_Zq Bundle.tN "UNASSIGNED_STACK" Bundle.steD A s s.heap) (hN : vx_Zq Bundle.tN "SUPPRESSED_SENTINEL" Bundle.listD A s s.heap) (hS : va_S A s.heap H locs) (hsize : ls.size = c.maxLocals)
    (d0 : decode cc pc = .ok (.new ik, 3)) (d3 : decode cc (pc + 3) = .ok (.dup, 1)) (d4 : decode cc (pc + 4) = .ok (.invokespecial ic, 3)) (d7 : decode cc (pc + 7) = .ok (.athrow, 1))
    (hout : ∀ x ∈ c.exceptionTable.toList, covers x (pc + 7) = false)
    (hRframes : names.length + 3 < R.frames) (hRlocals : (rest.map fun v => v.category).sum + (13 * (names.length + 1) + 42) ≤ R.locals) (hRcells : cells + 1 ≤ R.cells) (hRslots : slots + 6 ≤ R.slots) (hlocks : meth.locks = false)
    (hx : ∀ t : State, s.vm.Alike t.vm → H.size ≤ t.heap.size → (∀ q : Nat, q < H.size → t.heap[q]? = H[q]?) → XC cls s t)
    (hf : ∀ z ∈ locs, free z.base) (hc : cells + 1 ≤ mc) (hs : slots + 6 ≤ ms) :
    W p l e R s m args below meth c H locs cells slots (vx_MQ below Qc XC args s mc ms free) (F0 m pc ls rest) := by
  intro T hT X
  have htr : e.platform.stackTraces = false := (show e.platform.stackTraces = l.stackTraces by rw [X.admits.platform]).trans hl
  have Y := vx_rebase X (R' := { frames := R.frames, locals := R.locals, cells := 1, slots := 6 }) (Nat.le_refl _) (Nat.le_refl _) hRcells hRslots
  obtain ⟨s', hA⟩ : ∃ z, z = (T.setVm s.vm).setFrames (.invoking m args :: below) := ⟨_, rfl⟩
  rw [← hA] at Y
  have hvm : s'.vm = s.vm := by rw [hA]; rfl
  have hhp : s'.heap = H := by rw [hA]; exact hT
  have hW0 : s.WarmedH s'.vm := by rw [hvm]; exact State.WarmedH.refl s
  have hat' : ∀ w ∈ vx_at0 own ic cls names, w.before args s' = true := fun w hw => vx_ot_at hW0 hvm.symm (hgood w (List.mem_cons_of_mem _ (List.mem_cons_of_mem _ hw))) (hat w hw)
  have hk' : (Cond.classLink own ik cls).before args s' = true := vx_ot_at hW0 hvm.symm (hgood _ List.mem_cons_self) hk
  have hini' : (Cond.initialized cls).before args s' = true := vx_ot_at hW0 hvm.symm (hgood _ (List.mem_cons_of_mem _ List.mem_cons_self)) hini
  have hU' : vx_Zq Bundle.tN "UNASSIGNED_STACK" Bundle.steD A s' s'.heap := by rw [hhp]; exact vx_Zq.moved hW0.alike (hU.kept hS.2.1)
  have hN' : vx_Zq Bundle.tN "SUPPRESSED_SENTINEL" Bundle.listD A s' s'.heap := by rw [hhp]; exact vx_Zq.moved hW0.alike (hN.kept hS.2.1)
  have h : ∀ w ∈ Bundle.ownAtoms0 own ic cls names, w.before args s' = true := vx_own hat' (vx_isRefq hU'.1) (vx_isRefq hN'.1) hU'.2.word hN'.2.word
  have hown' : s'.vm.findClass own = some m.cls := by rw [hvm]; exact hown
  have hins : (Cond.instantiable cls 6).before args s' = true := h _ (by simp [Bundle.ownAtoms0])
  obtain ⟨vm₁, cX, kX, hfX, hkX, -, -, X₁, st1⟩ := Y.newCold hexec (own := own) (C := cls) (index := ik) (n := 6) hown' hk' hins hini'
    (g := F0 m pc ls rest) rfl (by rw [hb]; exact d0) (Nat.le_refl _) (Nat.le_refl _)
  generalize hT1 : (T.setVm vm₁).pushCell { cls := cX, slots := kX.instanceTypes.map defaultValue, vm := .none } = T1 at X₁ st1
  have hcat : (Value.ref T.heap.size).category = 1 := rfl
  have hcellA : T1.heap[T.heap.size]? = some (freshCell cX kX) := by rw [← hT1]; exact State.heap_pushCell_size _ _
  have d3' : decode c.code (pc + 3) = .ok (.dup, 1) := by rw [hb]; exact d3
  obtain ⟨U, hsteps, hrun, hend, hW, hsame, ce, hce, hO⟩ := X₁.ctorThrow0 hexec htr (own := own) (cls := cls) (names := names) (ic := ic) hown' hcls hnames h (fun x hx => nomatch hx) hfX hkX hcellA (by rw [hhp, hT]; exact Nat.le_refl _)
    (g := { method := m, pc := pc + 4, locals := ls, stack := .ref T.heap.size :: .ref T.heap.size :: rest, locked := none }) rfl hsize rfl rfl (rest := rest) rfl
    (by rw [hb]; exact d4) (by rw [hb]; exact d7) hout hRframes (by simp only [List.map_cons, List.sum_cons, hcat]; omega) hlocks
  obtain ⟨f1, f2⟩ := vx_frame hsame
  rw [hhp] at f1 f2
  have hWs : s.WarmedH U.vm := State.WarmedH.trans hW0 hW
  have hcl : s.vm.findClass cls = some ce.cls := by
    have h9 := hO.cls
    rw [hvm] at h9
    exact h9
  have hall : s.sameButNew ({ U with vm := s.vm } : State) locs mc ms := by
    subst hA
    obtain ⟨e1, e2⟩ := hsame
    rw [State.setFrames_setFrames] at e1
    have h2 : (T.setVm s.vm).sameButNew ({ U with vm := s.vm } : State) [] (0 + 1) (0 + 6) := ⟨e1, e2⟩
    have h3 := X.same.trans h2
    rw [List.append_nil] at h3
    exact h3.mono hc hs
  refine ⟨U, ?_, .threw T.heap.size, hrun, hend, Or.inr ⟨T.heap.size, rfl, cls, ce, locs, hx U hWs.alike f1 (fun q hq => f2 q hq (fun z hz => nomatch hz)), hce, hO.vm, hcl, hWs, hall, hf⟩⟩
  refine st1 _ ?_
  show Steps p.tables e below (T1.setTop { method := m, pc := pc + 3, locals := ls, stack := .ref T.heap.size :: rest, locked := none }) _
  jvm_step X₁.here [X₁.here.top, hexec, d3', Value.category]
  exact hsteps
/-- 'throw new E("text")': new; dup; ldc; invokespecial; athrow -/
theorem vx_throwS {cc : ByteArray} {pc : Nat} (hexec : p.tables.exec = Jvm.exec) (hb : c.code = cc) (hl : l.stackTraces = false) {own cls text : String} {names : List String} {ik is ic mc ms sa : Nat} {A : Nat → Prop}
    (hown : s.vm.findClass own = some m.cls) (hcls : Bundle.fit cls = true) (hnames : ∀ n ∈ names, Bundle.fit n = true)
    (hk : (Cond.classLink own ik cls).before args s = true) (hini : (Cond.initialized cls).before args s = true) (hstr : vk_R own is text sa s) (hat : ∀ w ∈ vx_atS own ic cls names, w.before args s = true)
    (hgood : ∀ w ∈ Cond.classLink own ik cls :: Cond.initialized cls :: vx_atS own ic cls names, vx_ot w = true)
    (hU : vx_Zq Bundle.tN "UNASSIGNED_STACK" Bundle.steD A s s.heap) (hN : vx_Zq Bundle.tN "SUPPRESSED_SENTINEL" Bundle.listD A s s.heap) (hS : va_S A s.heap H locs) (hsize : ls.size = c.maxLocals)
    (d0 : decode cc pc = .ok (.new ik, 3)) (d3 : decode cc (pc + 3) = .ok (.dup, 1)) (d4 : decode cc (pc + 4) = .ok (.ldc is, 2)) (d6 : decode cc (pc + 6) = .ok (.invokespecial ic, 3)) (d9 : decode cc (pc + 9) = .ok (.athrow, 1))
    (hout : ∀ x ∈ c.exceptionTable.toList, covers x (pc + 9) = false)
    (hRframes : names.length + 3 < R.frames) (hRlocals : (rest.map fun v => v.category).sum + (13 * (names.length + 1) + 43) ≤ R.locals) (hRcells : cells + 1 ≤ R.cells) (hRslots : slots + 6 ≤ R.slots) (hlocks : meth.locks = false)
    (hx : ∀ t : State, s.vm.Alike t.vm → H.size ≤ t.heap.size → (∀ q : Nat, q < H.size → t.heap[q]? = H[q]?) → XC cls s t)
    (hf : ∀ z ∈ locs, free z.base) (hc : cells + 1 ≤ mc) (hs : slots + 6 ≤ ms) :
    W p l e R s m args below meth c H locs cells slots (vx_MQ below Qc XC args s mc ms free) (F0 m pc ls rest) := by
  intro T hT X
  have htr : e.platform.stackTraces = false := (show e.platform.stackTraces = l.stackTraces by rw [X.admits.platform]).trans hl
  have Y := vx_rebase X (R' := { frames := R.frames, locals := R.locals, cells := 1, slots := 6 }) (Nat.le_refl _) (Nat.le_refl _) hRcells hRslots
  obtain ⟨s', hA⟩ : ∃ z, z = (T.setVm s.vm).setFrames (.invoking m args :: below) := ⟨_, rfl⟩
  rw [← hA] at Y
  have hvm : s'.vm = s.vm := by rw [hA]; rfl
  have hhp : s'.heap = H := by rw [hA]; exact hT
  have hW0 : s.WarmedH s'.vm := by rw [hvm]; exact State.WarmedH.refl s
  have hat' : ∀ w ∈ vx_atS own ic cls names, w.before args s' = true := fun w hw => vx_ot_at hW0 hvm.symm (hgood w (List.mem_cons_of_mem _ (List.mem_cons_of_mem _ hw))) (hat w hw)
  have hk' : (Cond.classLink own ik cls).before args s' = true := vx_ot_at hW0 hvm.symm (hgood _ List.mem_cons_self) hk
  have hini' : (Cond.initialized cls).before args s' = true := vx_ot_at hW0 hvm.symm (hgood _ (List.mem_cons_of_mem _ List.mem_cons_self)) hini
  have hU' : vx_Zq Bundle.tN "UNASSIGNED_STACK" Bundle.steD A s' s'.heap := by rw [hhp]; exact vx_Zq.moved hW0.alike (hU.kept hS.2.1)
  have hN' : vx_Zq Bundle.tN "SUPPRESSED_SENTINEL" Bundle.listD A s' s'.heap := by rw [hhp]; exact vx_Zq.moved hW0.alike (hN.kept hS.2.1)
  have h : ∀ w ∈ Bundle.ownAtoms own ic cls names, w.before args s' = true := vx_own hat' (vx_isRefq hU'.1) (vx_isRefq hN'.1) hU'.2.word hN'.2.word
  have hown' : s'.vm.findClass own = some m.cls := by rw [hvm]; exact hown
  have hins : (Cond.instantiable cls 6).before args s' = true := h _ (by simp [Bundle.ownAtoms])
  obtain ⟨vm₁, cX, kX, hfX, hkX, -, -, X₁, st1⟩ := Y.newCold hexec (own := own) (C := cls) (index := ik) (n := 6) hown' hk' hins hini'
    (g := F0 m pc ls rest) rfl (by rw [hb]; exact d0) (Nat.le_refl _) (Nat.le_refl _)
  generalize hT1 : (T.setVm vm₁).pushCell { cls := cX, slots := kX.instanceTypes.map defaultValue, vm := .none } = T1 at X₁ st1
  have hcat : (Value.ref T.heap.size).category = 1 := rfl
  have hcellA : T1.heap[T.heap.size]? = some (freshCell cX kX) := by rw [← hT1]; exact State.heap_pushCell_size _ _
  have d3' : decode c.code (pc + 3) = .ok (.dup, 1) := by rw [hb]; exact d3
  have d4' : decode c.code (pc + 4) = .ok (.ldc is, 2) := by rw [hb]; exact d4
  have hstr' : vk_R own is text sa s' := vk_R.warm hW0 hstr
  obtain ⟨U, hsteps, hrun, hend, hW, hsame, ce, hce, hO⟩ := X₁.ctorThrowS hexec htr (own := own) (cls := cls) (names := names) (ic := ic) hown' hcls hnames h (fun x hx => nomatch hx) hfX hkX hcellA (by rw [hhp, hT]; exact Nat.le_refl _) (msg := .ref sa) rfl
    (g := { method := m, pc := pc + 6, locals := ls, stack := .ref sa :: .ref T.heap.size :: .ref T.heap.size :: rest, locked := none }) rfl hsize rfl rfl (rest := rest) rfl
    (by rw [hb]; exact d6) (by rw [hb]; exact d9) hout hRframes (by simp only [List.map_cons, List.sum_cons, hcat]; omega) hlocks
  obtain ⟨f1, f2⟩ := vx_frame hsame
  rw [hhp] at f1 f2
  have hWs : s.WarmedH U.vm := State.WarmedH.trans hW0 hW
  have hcl : s.vm.findClass cls = some ce.cls := by
    have h9 := hO.cls
    rw [hvm] at h9
    exact h9
  have hall : s.sameButNew ({ U with vm := s.vm } : State) locs mc ms := by
    subst hA
    obtain ⟨e1, e2⟩ := hsame
    rw [State.setFrames_setFrames] at e1
    have h2 : (T.setVm s.vm).sameButNew ({ U with vm := s.vm } : State) [] (0 + 1) (0 + 6) := ⟨e1, e2⟩
    have h3 := X.same.trans h2
    rw [List.append_nil] at h3
    exact h3.mono hc hs
  refine ⟨U, ?_, .threw T.heap.size, hrun, hend, Or.inr ⟨T.heap.size, rfl, cls, ce, locs, hx U hWs.alike f1 (fun q hq => f2 q hq (fun z hz => nomatch hz)), hce, hO.vm, hcl, hWs, hall, hf⟩⟩
  refine st1 _ ?_
  show Steps p.tables e below (T1.setTop { method := m, pc := pc + 3, locals := ls, stack := .ref T.heap.size :: rest, locked := none }) _
  jvm_step X₁.here [X₁.here.top, hexec, d3', Value.category]
  exact X₁.ldcString hexec (own := own) (text := text) (index := is) (a := sa) hown' hstr'.1 hstr'.2
    (g := { method := m, pc := pc + 4, locals := ls, stack := .ref T.heap.size :: .ref T.heap.size :: rest, locked := none }) rfl d4' _ hsteps
/-- 'throw new E("text")', the text by a wide index -/
theorem vx_throwSW {cc : ByteArray} {pc : Nat} (hexec : p.tables.exec = Jvm.exec) (hb : c.code = cc) (hl : l.stackTraces = false) {own cls text : String} {names : List String} {ik is ic mc ms sa : Nat} {A : Nat → Prop}
    (hown : s.vm.findClass own = some m.cls) (hcls : Bundle.fit cls = true) (hnames : ∀ n ∈ names, Bundle.fit n = true)
    (hk : (Cond.classLink own ik cls).before args s = true) (hini : (Cond.initialized cls).before args s = true) (hstr : vk_R own is text sa s) (hat : ∀ w ∈ vx_atS own ic cls names, w.before args s = true)
    (hgood : ∀ w ∈ Cond.classLink own ik cls :: Cond.initialized cls :: vx_atS own ic cls names, vx_ot w = true)
    (hU : vx_Zq Bundle.tN "UNASSIGNED_STACK" Bundle.steD A s s.heap) (hN : vx_Zq Bundle.tN "SUPPRESSED_SENTINEL" Bundle.listD A s s.heap) (hS : va_S A s.heap H locs) (hsize : ls.size = c.maxLocals)
    (d0 : decode cc pc = .ok (.new ik, 3)) (d3 : decode cc (pc + 3) = .ok (.dup, 1)) (d4 : decode cc (pc + 4) = .ok (.ldc_w is, 3)) (d7 : decode cc (pc + 7) = .ok (.invokespecial ic, 3)) (d10 : decode cc (pc + 10) = .ok (.athrow, 1))
    (hout : ∀ x ∈ c.exceptionTable.toList, covers x (pc + 10) = false)
    (hRframes : names.length + 3 < R.frames) (hRlocals : (rest.map fun v => v.category).sum + (13 * (names.length + 1) + 43) ≤ R.locals) (hRcells : cells + 1 ≤ R.cells) (hRslots : slots + 6 ≤ R.slots) (hlocks : meth.locks = false)
    (hx : ∀ t : State, s.vm.Alike t.vm → H.size ≤ t.heap.size → (∀ q : Nat, q < H.size → t.heap[q]? = H[q]?) → XC cls s t)
    (hf : ∀ z ∈ locs, free z.base) (hc : cells + 1 ≤ mc) (hs : slots + 6 ≤ ms) :
    W p l e R s m args below meth c H locs cells slots (vx_MQ below Qc XC args s mc ms free) (F0 m pc ls rest) := by
  intro T hT X
  have htr : e.platform.stackTraces = false := (show e.platform.stackTraces = l.stackTraces by rw [X.admits.platform]).trans hl
  have Y := vx_rebase X (R' := { frames := R.frames, locals := R.locals, cells := 1, slots := 6 }) (Nat.le_refl _) (Nat.le_refl _) hRcells hRslots
  obtain ⟨s', hA⟩ : ∃ z, z = (T.setVm s.vm).setFrames (.invoking m args :: below) := ⟨_, rfl⟩
  rw [← hA] at Y
  have hvm : s'.vm = s.vm := by rw [hA]; rfl
  have hhp : s'.heap = H := by rw [hA]; exact hT
  have hW0 : s.WarmedH s'.vm := by rw [hvm]; exact State.WarmedH.refl s
  have hat' : ∀ w ∈ vx_atS own ic cls names, w.before args s' = true := fun w hw => vx_ot_at hW0 hvm.symm (hgood w (List.mem_cons_of_mem _ (List.mem_cons_of_mem _ hw))) (hat w hw)
  have hk' : (Cond.classLink own ik cls).before args s' = true := vx_ot_at hW0 hvm.symm (hgood _ List.mem_cons_self) hk
  have hini' : (Cond.initialized cls).before args s' = true := vx_ot_at hW0 hvm.symm (hgood _ (List.mem_cons_of_mem _ List.mem_cons_self)) hini
  have hU' : vx_Zq Bundle.tN "UNASSIGNED_STACK" Bundle.steD A s' s'.heap := by rw [hhp]; exact vx_Zq.moved hW0.alike (hU.kept hS.2.1)
  have hN' : vx_Zq Bundle.tN "SUPPRESSED_SENTINEL" Bundle.listD A s' s'.heap := by rw [hhp]; exact vx_Zq.moved hW0.alike (hN.kept hS.2.1)
  have h : ∀ w ∈ Bundle.ownAtoms own ic cls names, w.before args s' = true := vx_own hat' (vx_isRefq hU'.1) (vx_isRefq hN'.1) hU'.2.word hN'.2.word
  have hown' : s'.vm.findClass own = some m.cls := by rw [hvm]; exact hown
  have hins : (Cond.instantiable cls 6).before args s' = true := h _ (by simp [Bundle.ownAtoms])
  obtain ⟨vm₁, cX, kX, hfX, hkX, -, -, X₁, st1⟩ := Y.newCold hexec (own := own) (C := cls) (index := ik) (n := 6) hown' hk' hins hini'
    (g := F0 m pc ls rest) rfl (by rw [hb]; exact d0) (Nat.le_refl _) (Nat.le_refl _)
  generalize hT1 : (T.setVm vm₁).pushCell { cls := cX, slots := kX.instanceTypes.map defaultValue, vm := .none } = T1 at X₁ st1
  have hcat : (Value.ref T.heap.size).category = 1 := rfl
  have hcellA : T1.heap[T.heap.size]? = some (freshCell cX kX) := by rw [← hT1]; exact State.heap_pushCell_size _ _
  have d3' : decode c.code (pc + 3) = .ok (.dup, 1) := by rw [hb]; exact d3
  have d4' : decode c.code (pc + 4) = .ok (.ldc_w is, 3) := by rw [hb]; exact d4
  have hstr' : vk_R own is text sa s' := vk_R.warm hW0 hstr
  obtain ⟨U, hsteps, hrun, hend, hW, hsame, ce, hce, hO⟩ := X₁.ctorThrowS hexec htr (own := own) (cls := cls) (names := names) (ic := ic) hown' hcls hnames h (fun x hx => nomatch hx) hfX hkX hcellA (by rw [hhp, hT]; exact Nat.le_refl _) (msg := .ref sa) rfl
    (g := { method := m, pc := pc + 7, locals := ls, stack := .ref sa :: .ref T.heap.size :: .ref T.heap.size :: rest, locked := none }) rfl hsize rfl rfl (rest := rest) rfl
    (by rw [hb]; exact d7) (by rw [hb]; exact d10) hout hRframes (by simp only [List.map_cons, List.sum_cons, hcat]; omega) hlocks
  obtain ⟨f1, f2⟩ := vx_frame hsame
  rw [hhp] at f1 f2
  have hWs : s.WarmedH U.vm := State.WarmedH.trans hW0 hW
  have hcl : s.vm.findClass cls = some ce.cls := by
    have h9 := hO.cls
    rw [hvm] at h9
    exact h9
  have hall : s.sameButNew ({ U with vm := s.vm } : State) locs mc ms := by
    subst hA
    obtain ⟨e1, e2⟩ := hsame
    rw [State.setFrames_setFrames] at e1
    have h2 : (T.setVm s.vm).sameButNew ({ U with vm := s.vm } : State) [] (0 + 1) (0 + 6) := ⟨e1, e2⟩
    have h3 := X.same.trans h2
    rw [List.append_nil] at h3
    exact h3.mono hc hs
  refine ⟨U, ?_, .threw T.heap.size, hrun, hend, Or.inr ⟨T.heap.size, rfl, cls, ce, locs, hx U hWs.alike f1 (fun q hq => f2 q hq (fun z hz => nomatch hz)), hce, hO.vm, hcl, hWs, hall, hf⟩⟩
  refine st1 _ ?_
  show Steps p.tables e below (T1.setTop { method := m, pc := pc + 3, locals := ls, stack := .ref T.heap.size :: rest, locked := none }) _
  jvm_step X₁.here [X₁.here.top, hexec, d3', Value.category]
  exact X₁.ldcStringW hexec (own := own) (text := text) (index := is) (a := sa) hown' hstr'.1 hstr'.2
    (g := { method := m, pc := pc + 4, locals := ls, stack := .ref T.heap.size :: .ref T.heap.size :: rest, locked := none }) rfl d4' _ hsteps
end Ends
section Bodies
variable {l : Launch}
theorem vx_ofW {y : MethodName} {ws ws' : List Cond} {rm : Room} {Pc : Array Value → State → Prop} {Qc : Array Value → State → Outcome → State → Prop} {XC : String → State → State → Prop} {mc ms : Nat} {free : Addr → Prop} {cc : ByteArray} {maxL : Nat} {ret : Option FieldType}
    (hy : plainName y.cls = true) (hw : ws = Cond.code y cc maxL ret :: ws')
    (body : ∀ p e s m args below meth c s₁, BodyLoose p l y (headSpec ws rm) cc maxL ret e s m args below meth c s₁ → c.maxLocals = maxL → (∀ x ∈ c.exceptionTable.toList, False) → Pc args s →
      W p l e (headSpec ws rm).room s m args below meth c s.heap [] 0 0 (vx_MQ below Qc XC args s mc ms free) (entryFrame m args maxL)) : vx_Met l y ws rm Pc Qc XC mc ms free := by
  refine MetFree.of_bodyS (code := cc) (maxLocals := maxL) (ret := ret) hy ?_ ?_
  · intro args s m h hn
    obtain ⟨meth, c, h1, h2, h3, h4, h5, h6, -, -⟩ := Cond.code_spec hn (atoms_spec (ws := ws) h _ (by rw [hw]; exact List.mem_cons_self))
    exact ⟨meth, c, h1, h2, h3, h4, h5, h6⟩
  · intro p e s m args below meth c s₁ B hml hP _
    have hh0 : s₁.heap = s.heap := by rw [B.state]; rfl
    have ht : ∀ x ∈ c.exceptionTable.toList, False := by
      obtain ⟨meth9, c9, h1, h2, -, -, -, -, h7, -⟩ := Cond.code_spec B.named (atoms_spec (ws := ws) B.pre _ (by rw [hw]; exact List.mem_cons_self))
      cases Option.some.inj (h1.symm.trans B.method)
      cases Option.some.inj (h2.symm.trans (Stand.of_body B).code)
      intro x hx
      rw [Array.isEmpty_iff.mp h7] at hx
      cases hx
    obtain ⟨t, a1, o, b1, b2, b3⟩ := body p e s m args below meth c s₁ B hml ht hP s₁ hh0 (Stand.of_body B)
    exact ⟨t, o, a1, b1, b2, b3⟩
/-- the table of a body with handlers -/
theorem vx_table {p : Program} {x y : MethodName} {S : Spec} {cc bytes : ByteArray} {maxL maxL' : Nat} {ret ret' : Option FieldType} {e : Env} {s s₁ : State} {m : MethodId} {args : Array Value} {below : List Frame} {meth : Method} {c : Code} {hh : List (Nat × Nat × Nat × Nat)}
    (B : BodyLoose p l y S cc maxL ret e s m args below meth c s₁) (h : (Cond.codeWith y bytes maxL' ret' hh).before args s = true) : c.exceptionTable.toList = tableOf hh := by
  obtain ⟨m9, meth9, c9, hn9, h1, h2, -, -, h6, -⟩ := Cond.codeWith_spec h
  cases Option.some.inj (hn9.symm.trans B.named)
  cases Option.some.inj (h1.symm.trans B.method)
  cases Option.some.inj (h2.symm.trans (Stand.of_body B).code)
  rw [← h6, table_eq]
end Bodies
end VXA
/-! ===== END ===== -/
/-! ===== BEGIN a static call of a method with an exception table ===== -/
section VXS
variable {p : Program} {l : Launch} {e : Env} {R : Room} {s : State} {m : MethodId} {args : Array Value} {below : List Frame} {meth : Method} {c : Code} {T : State} {H : Heap} {locs : List Loc} {cells slots : Nat}
abbrev vx_CSW (R : Room) (s : State) (args : Array Value) (own : String) (index : Nat) (y : MethodName) (bytes : ByteArray) (maxL : Nat) (ret : Option FieldType) (hh : List (Nat × Nat × Nat × Nat)) (ws : List Cond) (rm : Room) (mc ms n : Nat) : Prop :=
  (rm.cells = mc ∧ rm.slots = ms ∧ rm.frames + 1 ≤ R.frames ∧ 8 + (maxL + 11) + rm.locals ≤ R.locals ∧ (∀ w ∈ ws, ∀ (a' : Array Value) (U : State), s.WarmedH U.vm → w.before a' U = true) ∧ Cond.codeWith y bytes maxL ret hh ∈ ws) ∧
  (Cond.codeWith y bytes maxL ret hh).before args s = true ∧ (Cond.initialized y.cls).before args s = true ∧ (y.cls ≠ "java/lang/invoke/MethodHandle" ∧ y.cls ≠ "java/lang/invoke/VarHandle") ∧
  (∀ sig, parseMethodDescriptor y.desc = some sig → n = sig.parameters.length) ∧ (Cond.methodLink own index y).before args s = true ∧ (Cond.static y).before args s = true
theorem vx_cwSW {own : String} {index maxL mc ms : Nat} {y : MethodName} {bytes : ByteArray} {ret : Option FieldType} {hh : List (Nat × Nat × Nat × Nat)} {Ts ws ws' : List Cond} {rm : Room} (n : Nat) (ht : ∀ w ∈ Ts, w.before args s = true) (hT : GoodIn Ts (va_wsS own index y ws)) (hw : ws = Cond.codeWith y bytes maxL ret hh :: ws') (hrc : rm.cells = mc) (hrs : rm.slots = ms)
    (hd : y.cls ≠ "java/lang/invoke/MethodHandle" ∧ y.cls ≠ "java/lang/invoke/VarHandle" ∧ (parseMethodDescriptor y.desc).map (fun d => d.parameters.length) = some n) (hR : rm.frames + 1 ≤ R.frames ∧ 8 + (maxL + 11) + rm.locals ≤ R.locals) :
    vx_CSW R s args own index y bytes maxL ret hh ws rm mc ms n := by
  have ok : ∀ w ∈ va_wsS own index y ws, w.before args s = true := fun w h => ht w (hT w h).1
  have hG : GoodIn Ts ws := fun w h => hT w (by unfold va_wsS; exact List.mem_append_right _ h)
  have hc : Cond.codeWith y bytes maxL ret hh ∈ ws := by rw [hw]; exact List.mem_cons_self
  refine ⟨⟨hrc, hrs, hR.1, hR.2, pay_in ht hG, hc⟩, ht _ (hG _ hc).1, ok _ (by simp [va_wsS]), ⟨hd.1, hd.2.1⟩, fun sig h => ?_, ok _ (by simp [va_wsS]), ok _ (by simp [va_wsS])⟩
  have h2 := hd.2.2
  rw [h] at h2
  exact (Option.some.inj h2).symm
theorem vx_callSW (X : Stand p l e R s m args below meth c T locs cells slots) (hexec : p.tables.exec = Jvm.exec) {own : String} {index : Nat} {y : MethodName} {bytes : ByteArray} {maxL : Nat} {ret : Option FieldType} {hh : List (Nat × Nat × Nat × Nat)}
    (hown : s.vm.findClass own = some m.cls) (hlink : (Cond.methodLink own index y).before args s = true) (hstat : (Cond.static y).before args s = true) (hinit : (Cond.initialized y.cls).before args s = true)
    (hcode : (Cond.codeWith y bytes maxL ret hh).before args s = true) (hy : y.cls ≠ "java/lang/invoke/MethodHandle" ∧ y.cls ≠ "java/lang/invoke/VarHandle")
    {W9 : Nat} {Pre : Pt → Array Value → Prop} {Post : Pt → Array Value → Option Value → Pt → Prop} (hK : Back l R p e below s args y 3 W9 Pre Post)
    {g : JFrame} (hg : g.method = m) (hsize : g.locals.size = c.maxLocals) {argsL rest : List Value} (hlen : ∀ sig, parseMethodDescriptor y.desc = some sig → argsL.length = sig.parameters.length)
    (hstack : g.stack = argsL.reverse ++ rest) (hW : 2 * g.monitorRoom + (rest.map fun v => v.category).sum ≤ W9) (hdg : decode c.code g.pc = .ok (.invokestatic index, 3))
    (hpre : ∀ vm₁, s.WarmedH vm₁ → Pre ⟨T.setVm vm₁, locs, cells, slots⟩ argsL.toArray) :
    ∃ (v : Option Value) (vm₁ : Vm) (B : Pt), s.WarmedH vm₁ ∧ Stand p l e R s m args below meth c B.U B.locs B.cells B.slots ∧ Post ⟨T.setVm vm₁, locs, cells, slots⟩ argsL.toArray v B ∧
      ∀ target, Steps p.tables e below (B.U.setTop { g with pc := g.pc + 3, stack := v.toList ++ rest }) target → Steps p.tables e below (T.setTop g) target := by
  obtain ⟨mk, methM, cM, hnamed, hmethM, -, -, -, -, -, -, hsigM⟩ := Cond.codeWith_spec hcode
  have hstatic : methM.isStatic = true := Cond.static_spec hnamed hmethM hstat
  obtain ⟨kP, hkP, -⟩ := className_of_methodNamed hnamed
  have hinitP : kP.init = .initialized := Cond.initialized_spec (findClass_of_methodNamed hnamed) hkP hinit
  obtain ⟨vm₁, X₁, hstep₁⟩ := X.invokestatic hexec hown hlink hnamed hmethM hstatic hkP hinitP hy (g := g) hg (argsL := argsL) (rest := rest) (hlen _ hsigM) hstack hdg
  obtain ⟨v, B, X', hpost, hsteps⟩ := hK m meth c ⟨T.setVm vm₁, locs, cells, slots⟩ { g with stack := rest } (.invokestatic index) mk argsL.toArray X₁ hg hsize hdg hW (X₁.named hnamed) (hpre vm₁ X₁.warmed)
  exact ⟨v, vm₁, B, X₁.warmed, X', hpost, fun target h => hstep₁ _ fun acts => by rw [doInvoke_state]; exact hsteps.trans h⟩
theorem vx_runSW {y : MethodName} {bytes cc : ByteArray} {maxL nL mc ms n index : Nat} {ret : Option FieldType} {hh : List (Nat × Nat × Nat × Nat)} {ws : List Cond} {rm : Room} {Pc : Array Value → State → Prop} {Qc : Array Value → State → Outcome → State → Prop} {free : Addr → Prop} {Ts : List Cond} {own : String} {As rest : List Value} {g : JFrame}
    (S : CallFix p m c cc nL s args Ts own) (hM : Met l y ws rm Pc Qc mc ms free) (cw : vx_CSW R s args own index y bytes maxL ret hh ws rm mc ms n) (hp : PreS s H Pc As)
    (hg : g.method = m) (hn : As.length = n) (hsize : g.locals.size = nL) (hstack : g.stack = As.reverse ++ rest) (hW : 2 * g.monitorRoom + (rest.map fun v => v.category).sum ≤ 8) (hdg : decode cc g.pc = .ok (.invokestatic index, 3)) (hf : cells + mc ≤ R.cells ∧ slots + ms ≤ R.slots) :
    va_Run p l e R s m args below meth c H locs cells slots mc ms g rest (Qc As.toArray) (free) := by
  obtain ⟨⟨hrc, hrs, hfr, hlo, hws, hcw⟩, hcode, hini, hy, hlen, hl, hstt⟩ := cw
  have hK : Back l R p e below s args y 3 8 (PreOf R mc ms Pc) (PostOf Qc mc ms free) := va_backW (hh := hh) (bytes := bytes) (maxL := maxL) (ret := ret) hM hp.1 hrc hrs hfr hlo hws hcw (fun a' U hW => word_at hW (Or.inl (by first | rfl | simp [Cond.onTables, Cond.keeps, Cond.steady])) hini)
  obtain ⟨hx, hb, hml, ho, -⟩ := S
  intro T hT X
  obtain ⟨v, vm₁, ⟨U', l2, c2, s2⟩, hW₁, X', ⟨g', mk, t, L, e1, e2, hq, h1, hL, h2, h3⟩, st⟩ := vx_callSW X hx (hh := hh) (bytes := bytes) (maxL := maxL) (ret := ret) ho hl hstt hini hcode hy hK hg (hsize.trans hml.symm) (argsL := As) (rest := rest) (fun sig h => hn.trans (hlen sig h)) hstack hW (by rw [hb]; exact hdg)
    (fun vm₁ hW₁ => ⟨hf.1, hf.2, hp.2 (T.setVm vm₁) hT hW₁⟩)
  dsimp only [Pt.U, Pt.locs, Pt.cells, Pt.slots] at X' e1 e2 h1 h2 h3 st
  subst h1; subst h2; subst h3
  exact ⟨v, (T.setVm vm₁).calling g' mk As.toArray, t, U', L, hT, X', hL, e1, e2, hq, st⟩
/-- not caught here, past rows that name other classes: it goes on to the caller -/
theorem vx_outP {p : Program} {l : Launch} {e : Env} {R : Room} {s : State} {m : MethodId} {args : Array Value} {below : List Frame} {meth : Method} {c : Code} {H : Heap} {locs : List Loc} {cells slots : Nat} {free : Addr → Prop} {ls : Array Slot} {rest : List Value} {Qc : Array Value → State → Outcome → State → Prop} {XC : String → State → State → Prop}
    {pc : Nat} {own E : String} {ce : Cell} {q : Addr} {mc ms : Nat} (hown : s.vm.findClass own = some m.cls) (hlocks : meth.locks = false)
    (hpass : ∀ z ∈ c.exceptionTable.toList, covers z pc = false ∨ (z.catchType ≠ 0 ∧ ∃ nm : String, (Cond.classLink own z.catchType nm).before args s = true ∧ va_Nc E nm s)) (hcell : H[q]? = some ce) (hv : ce.vm = .none) (hcl : s.vm.findClass E = some ce.cls)
    (hx : ∀ t : State, t.heap = H → s.vm.Alike t.vm → XC E s t) (hf : ∀ z ∈ locs, free z.base) (hc : cells ≤ mc) (hs : slots ≤ ms) :
    vx_W p l e R s m args below meth c H locs cells slots (vx_MQ below Qc XC args s mc ms free) (F0 m pc ls rest) q := by
  intro T hT X
  have hpl : e.platform.magicAccessors = ({} : Platform).magicAccessors := by rw [X.admits.platform]
  obtain ⟨vm', hW', X', st⟩ := X.outThrough hlocks q (g := F0 m pc ls rest) rfl rfl rfl (cell := ce) (by rw [hT]; exact hcell) (by rw [hv]; rfl)
    (by obtain ⟨k9, h9, -⟩ := Vm.findClass_spec hcl; exact ⟨k9, h9⟩) (fun z hz => by
      rcases hpass z hz with h | ⟨hz0, nm, hl1, hn1⟩
      · exact Or.inl h
      · obtain ⟨c6, hc6, hcl6⟩ := Cond.classLink_spec hown hl1 e.platform hpl
        obtain ⟨a8, b8, h1, h2, h3⟩ := hn1
        cases Option.some.inj (h1.symm.trans hcl)
        cases Option.some.inj (h2.symm.trans hc6)
        exact Or.inr ⟨hz0, _, hcl6, h3⟩)
  obtain ⟨g₀, hfr⟩ := X'.frames_eq
  have hcell9 : ((T.setVm vm').setFrames (.throwing q :: below)).heap[q]? = some ce := by
    show T.heap[q]? = some ce
    rw [hT]; exact hcell
  have hend : Ended ((T.setVm vm').setFrames (.throwing q :: below)) below (.threw q) := State.frames_setFrames _ (State.cur_lt_of_frames hfr)
  refine ⟨(T.setVm vm').setFrames (.throwing q :: below), ?_, .threw q, X'.here.running, hend, Or.inr ⟨q, rfl, E, ce, locs, hx _ hT (X'.ends _).1.alike, hcell9, hv, hcl, (X'.ends _).1, (X'.ends _).2.mono hc hs, hf⟩⟩
  rw [X.pushThrowing_eq]
  exact st
/-- a thing of a world lies in the heap -/
theorem vx_lt {D : va_G} {cl : List vw_C} {ws : va_W} {H1 : Heap} (h : va_P D cl ws H1) {k : Nat} {q : Nat × va_E} (hk : ws[k]? = some q) : q.1 < H1.size := (h k q hk).lt
end VXS
/-! ===== END ===== -/
/-! ===== BEGIN methods with a table of their own: called by a name, returning or throwing ===== -/
section VXH
/-! vx_backW, vx_callVX, vx_callSX, vx_callVW, vx_runVW, vx_runVX, vx_runSX, vx_ofWH follow the same proofs as their sisters above (Free/Laws.lean, Shelf42/LK1.lean); vx_outP calls Shelf42/NT130.lean (outThrough). -/
section
variable {l : Launch} {R : Room} {p : Program} {e : Env} {below : List Frame} {s : State} {sargs : Array Value} {y : MethodName} {len W9 : Nat}
theorem vx_backW {ws : List Cond} {rm : Room} {Pc : Array Value → State → Prop} {Qc : Array Value → State → Outcome → State → Prop} {XC : String → State → State → Prop} {mc ms : Nat} {free : Addr → Prop} {bytes : ByteArray} {maxL : Nat} {ret : Option FieldType} {hh : List (Nat × Nat × Nat × Nat)}
    (hM : vx_Met l y ws rm Pc Qc XC mc ms free) (hblind : FrameBlind Pc) (hrc : rm.cells = mc) (hrs : rm.slots = ms)
    (hframes : rm.frames + 1 ≤ R.frames) (hlocals : W9 + (maxL + 11) + rm.locals ≤ R.locals)
    (hws : ∀ w ∈ ws, ∀ a' U, s.WarmedH U.vm → w.before a' U = true) (hcode : Cond.codeWith y bytes maxL ret hh ∈ ws) (hinit : ∀ a' U, s.WarmedH U.vm → (Cond.initialized y.cls).before a' U = true) :
    vx_Back l R p e below s sargs y len W9 (PreOf R mc ms Pc) (PostOf Qc mc ms free) (vx_Post XC mc ms free) := by
  intro m meth c A g ig mk a X hg hsize hdg hW hn hp
  have h1 : (headSpec ws rm).pre.before a A.U = true := atoms_intro fun w hw => hws w hw _ _ X.warmed
  have h2 : (Cond.codeWith y bytes maxL ret hh).before a A.U = true := hws _ hcode _ _ X.warmed
  have h3 : (Cond.initialized y.cls).before a A.U = true := hinit _ _ X.warmed
  have h4 : A.cells + (headSpec ws rm).room.cells ≤ R.cells := by rw [show (headSpec ws rm).room.cells = mc from hrc]; exact hp.1
  have h5 : A.slots + (headSpec ws rm).room.slots ≤ R.slots := by rw [show (headSpec ws rm).room.slots = ms from hrs]; exact hp.2.1
  have hPc : Pc a (A.U.calling g mk a) := hblind _ _ _ _ hp.2.2
  obtain ⟨U, Ls, c0, s0⟩ := A
  dsimp only [Pt.U, Pt.locs, Pt.cells, Pt.slots] at h1 h2 h3 h4 h5 X hn hPc ⊢
  obtain ⟨m9, methY, cY, hn9, hmY, hcY, -, hlY, -⟩ := Cond.codeWith_spec h2
  cases Option.some.inj (hn9.symm.trans hn)
  obtain ⟨kY, hkY, -⟩ := className_of_methodNamed hn
  have hinitY : kY.init = .initialized := Cond.initialized_spec (findClass_of_methodNamed hn) hkY h3
  have h : At U g.method c below := by rw [hg]; exact X.here
  have hlocals9 : W9 + (maxL + 11) + (headSpec ws rm).room.locals ≤ R.locals := hlocals
  have happ : (headSpec ws rm).appliesLoose y e.platform (U.calling g mk a) = true :=
    Spec.appliesLoose_calling (g := g) h hdg hn hkY hinitY
      (X.room_calling (g := g) (R' := (headSpec ws rm).room) hsize hmY hcY hframes (by rw [hlY]; omega) h4 h5) h1
  obtain ⟨mid, hmid⟩ := h.above
  have hfr : (U.setTop g).frames = (.java g :: mid) ++ below := by rw [State.frames_setTop' g h.top, hmid]; rfl
  obtain ⟨o, s₂, hsteps, -, hend, hq⟩ := Steps.callFree hM p X.admits X.cas X.clock (acts := []) hfr happ hPc trivial
  have hq' : vx_Q Qc XC mc ms free a (U.calling g mk a) o s₂ := hq
  rw [State.frames_setTop' g h.top] at hend
  obtain ⟨g₀, hg0⟩ := Option.isSome_iff_exists.mp h.top
  obtain ⟨r, hr⟩ := State.topJava?_eq_some.mp hg0
  have hr' : (({ U with heap := s₂.heap, slotsUsed := s₂.slotsUsed } : State).setVm s₂.vm).frames = .java g₀ :: r := hr
  rcases hq' with ⟨hqc, L, hfe, hL⟩ | ⟨q, rfl, E, ce, L, hx, hce, hcv, hcl, hW₂, hsm, hL⟩
  · obtain ⟨⟨v, rfl⟩, hW₂, e2, q2, q3, q4, q5, q6⟩ := id hfe
    have e3 : s₂ = ({ (U.calling g mk a).setFrames s₂.frames with heap := s₂.heap, slotsUsed := s₂.slotsUsed } : State).setVm s₂.vm := by
      have : s₂ = ({ s₂ with vm := (U.calling g mk a).vm } : State).setVm s₂.vm := rfl
      rw [e2] at this
      exact this
    obtain ⟨c₂, i₂, len₂, hc₂, hd₂, hf₂⟩ := hend
    have hW' : U.WarmedH s₂.vm := hW₂
    have hcc : c₂ = c := by
      have h1 : s₂.code? g.method = U.code? g.method := by
        rw [State.code?_eq, State.code?_eq, hW'.alike.method?]
      exact Option.some.inj (hc₂.symm.trans (h1.trans h.code))
    subst hcc
    have hlen : len₂ = len := by rw [hdg] at hd₂; cases hd₂; rfl
    subst hlen
    have hs₂ : s₂ = (({ U with heap := s₂.heap, slotsUsed := s₂.slotsUsed } : State).setVm s₂.vm).setTop { g with pc := g.pc + len₂, stack := v.toList ++ g.stack } := by
      refine e3.trans ?_
      rw [hf₂, State.calling_eq h.top, State.setFrames_setFrames, State.setTop_of_frames _ hr', hr]
      rfl
    have hsame : U.sameButNew ({ U with heap := s₂.heap, slotsUsed := s₂.slotsUsed } : State) L mc ms := by
      refine ⟨?_, q2, q3, q4, q5, q6⟩
      obtain ⟨t, ht, -⟩ := State.frames_cons hr
      show ({ U with heap := s₂.heap, slotsUsed := s₂.slotsUsed } : State) = { U.setFrames U.frames with heap := s₂.heap, slotsUsed := s₂.slotsUsed }
      rw [State.setFrames_self ht]
    subst hg
    refine Or.inl ⟨v, ⟨(({ U with heap := s₂.heap, slotsUsed := s₂.slotsUsed } : State).setVm s₂.vm), Ls ++ L, c0 + mc, s0 + ms⟩,
      ⟨X.admits, X.cas, X.clock, X.frames, X.room, X.hears, X.method, X.code, (X.here.setHeapUsed s₂.heap s₂.slotsUsed).setVm hW'.alike, X.tail, State.WarmedH.trans X.warmed hW', X.limits, X.bytes, X.same.trans (hsame.setVm s.vm)⟩,
      ⟨g, mk, s₂, L, rfl, rfl, hqc, rfl, hL, rfl, rfl⟩, ?_⟩
    show Steps p.tables e below _ ((({ U with heap := s₂.heap, slotsUsed := s₂.slotsUsed } : State).setVm s₂.vm).setTop { g with pc := g.pc + len₂, stack := v.toList ++ g.stack })
    rw [← hs₂]
    exact hsteps
  · obtain ⟨e2, q2, q3, q4, q5, q6⟩ := id hsm
    have e3 : s₂ = ({ (U.calling g mk a).setFrames s₂.frames with heap := s₂.heap, slotsUsed := s₂.slotsUsed } : State).setVm s₂.vm := by
      have : s₂ = ({ s₂ with vm := (U.calling g mk a).vm } : State).setVm s₂.vm := rfl
      rw [e2] at this
      exact this
    have hf₂ : s₂.frames = .throwing q :: .java g :: U.frames.tail := hend
    have hW' : U.WarmedH s₂.vm := hW₂
    have hs₂ : s₂ = ((({ U with heap := s₂.heap, slotsUsed := s₂.slotsUsed } : State).setVm s₂.vm).setTop g).pushFrame (.throwing q) := by
      refine e3.trans ?_
      rw [hf₂, State.calling_eq h.top, State.setFrames_setFrames, State.pushFrame, State.frames_setTop _ hr', State.setTop_of_frames _ hr', State.setFrames_setFrames, hr]
      rfl
    have hsame : U.sameButNew ({ U with heap := s₂.heap, slotsUsed := s₂.slotsUsed } : State) L mc ms := by
      refine ⟨?_, q2, q3, q4, q5, q6⟩
      obtain ⟨t, ht, -⟩ := State.frames_cons hr
      show ({ U with heap := s₂.heap, slotsUsed := s₂.slotsUsed } : State) = { U.setFrames U.frames with heap := s₂.heap, slotsUsed := s₂.slotsUsed }
      rw [State.setFrames_self ht]
    subst hg
    refine Or.inr ⟨q, ⟨(({ U with heap := s₂.heap, slotsUsed := s₂.slotsUsed } : State).setVm s₂.vm), Ls ++ L, c0 + mc, s0 + ms⟩,
      ⟨X.admits, X.cas, X.clock, X.frames, X.room, X.hears, X.method, X.code, (X.here.setHeapUsed s₂.heap s₂.slotsUsed).setVm hW'.alike, X.tail, State.WarmedH.trans X.warmed hW', X.limits, X.bytes, X.same.trans (hsame.setVm s.vm)⟩,
      ⟨g, mk, s₂, L, E, ce, rfl, rfl, hx, hce, hcv, hcl, rfl, hL, rfl, rfl⟩, ?_⟩
    show Steps p.tables e below _ (((({ U with heap := s₂.heap, slotsUsed := s₂.slotsUsed } : State).setVm s₂.vm).setTop g).pushFrame (.throwing q))
    rw [← hs₂]
    exact hsteps
end
variable {p : Program} {l : Launch} {e : Env} {R : Room} {s : State} {m : MethodId} {args : Array Value} {below : List Frame} {meth : Method} {c : Code} {T : State} {H : Heap} {locs : List Loc} {cells slots : Nat}
theorem vx_callVX (X : Stand p l e R s m args below meth c T locs cells slots) (hexec : p.tables.exec = Jvm.exec) {own C : String} {index : Nat} {y : MethodName} {bytes : ByteArray} {maxL : Nat} {ret : Option FieldType} {hh : List (Nat × Nat × Nat × Nat)}
    (hown : s.vm.findClass own = some m.cls) (hlink : (Cond.methodLink own index y).before args s = true) (hinst : (Cond.instanceMethod y).before args s = true) (hsel : (Cond.selects C y y).before args s = true)
    (hcode : (Cond.codeWith y bytes maxL ret hh).before args s = true) (hy : y.cls ≠ "java/lang/invoke/MethodHandle" ∧ y.cls ≠ "java/lang/invoke/VarHandle")
    {W9 : Nat} {Pre : Pt → Array Value → Prop} {Post : Pt → Array Value → Option Value → Pt → Prop} {PostX : Pt → Array Value → Addr → Pt → Prop} (hK : vx_Back l R p e below s args y 3 W9 Pre Post PostX)
    {b : Addr} {cellB : Cell} (hcell : T.heap[b]? = some cellB) (hobj : cellB.vm.isStatics = false) (hcls : s.vm.findClass C = some cellB.cls)
    {g : JFrame} (hg : g.method = m) (hsize : g.locals.size = c.maxLocals) {argsL rest : List Value} (hlen : ∀ sig, parseMethodDescriptor y.desc = some sig → argsL.length = sig.parameters.length)
    (hstack : g.stack = argsL.reverse ++ .ref b :: rest) (hW : 2 * g.monitorRoom + (rest.map fun v => v.category).sum ≤ W9) (hdg : decode c.code g.pc = .ok (.invokevirtual index, 3))
    (hpre : ∀ vm₁, s.WarmedH vm₁ → Pre ⟨T.setVm vm₁, locs, cells, slots⟩ (Value.ref b :: argsL).toArray) :
    (∃ (v : Option Value) (vm₁ : Vm) (B : Pt), s.WarmedH vm₁ ∧ Stand p l e R s m args below meth c B.U B.locs B.cells B.slots ∧ Post ⟨T.setVm vm₁, locs, cells, slots⟩ (Value.ref b :: argsL).toArray v B ∧
      ∀ target, Steps p.tables e below (B.U.setTop { g with pc := g.pc + 3, stack := v.toList ++ rest }) target → Steps p.tables e below (T.setTop g) target) ∨
    (∃ (q : Addr) (vm₁ : Vm) (B : Pt), s.WarmedH vm₁ ∧ Stand p l e R s m args below meth c B.U B.locs B.cells B.slots ∧ PostX ⟨T.setVm vm₁, locs, cells, slots⟩ (Value.ref b :: argsL).toArray q B ∧
      Steps p.tables e below (T.setTop g) ((B.U.setTop { g with stack := rest }).pushFrame (.throwing q))) := by
  obtain ⟨mk, methM, hnamed, hmethM, hstM, habM⟩ := Cond.instanceMethod_spec hinst
  obtain ⟨m8, methM', cM, hn8, hmethM', -, -, -, -, -, -, hsigM⟩ := Cond.codeWith_spec hcode
  cases Option.some.inj (hn8.symm.trans hnamed)
  cases hmethM.symm.trans hmethM'
  obtain ⟨c2, r2, m2, q1, q2, q3, q4, kP, hkP, hkPi⟩ := Cond.selects_spec hsel
  cases hcls.symm.trans q1
  cases (State.methodFound?_of_named hnamed hy).symm.trans q2
  cases hnamed.symm.trans q3
  have hselP : selectMethod e.platform s.vm cellB.cls mk = .method mk := by rw [Launch.admits_selectMethod X.admits]; exact q4
  obtain ⟨vm₁, X₁, hstep₁⟩ := X.invokevirtual hexec hown hlink hnamed hmethM hstM hkP hkPi hy (a := b) (cell := cellB) hcell
    (fun z h => by rw [h] at hobj; cases hobj) hselP hmethM habM hkP hkPi (g := g) hg (argsL := argsL) (rest := rest) (hlen _ hsigM) hstack hdg
  rcases hK m meth c ⟨T.setVm vm₁, locs, cells, slots⟩ { g with stack := rest } (.invokevirtual index) mk (Value.ref b :: argsL).toArray X₁ hg hsize hdg hW (X₁.named hnamed) (hpre vm₁ X₁.warmed) with ⟨v, B, X', hpost, hsteps⟩ | ⟨q, B, X', hpost, hsteps⟩
  · exact Or.inl ⟨v, vm₁, B, X₁.warmed, X', hpost, fun target h => hstep₁ _ fun acts => by rw [doInvoke_state]; exact hsteps.trans h⟩
  · exact Or.inr ⟨q, vm₁, B, X₁.warmed, X', hpost, hstep₁ _ fun acts => by rw [doInvoke_state]; exact hsteps⟩
theorem vx_callSX (X : Stand p l e R s m args below meth c T locs cells slots) (hexec : p.tables.exec = Jvm.exec) {own : String} {index : Nat} {y : MethodName} {bytes : ByteArray} {maxL : Nat} {ret : Option FieldType} {hh : List (Nat × Nat × Nat × Nat)}
    (hown : s.vm.findClass own = some m.cls) (hlink : (Cond.methodLink own index y).before args s = true) (hstat : (Cond.static y).before args s = true) (hinit : (Cond.initialized y.cls).before args s = true)
    (hcode : (Cond.codeWith y bytes maxL ret hh).before args s = true) (hy : y.cls ≠ "java/lang/invoke/MethodHandle" ∧ y.cls ≠ "java/lang/invoke/VarHandle")
    {W9 : Nat} {Pre : Pt → Array Value → Prop} {Post : Pt → Array Value → Option Value → Pt → Prop} {PostX : Pt → Array Value → Addr → Pt → Prop} (hK : vx_Back l R p e below s args y 3 W9 Pre Post PostX)
    {g : JFrame} (hg : g.method = m) (hsize : g.locals.size = c.maxLocals) {argsL rest : List Value} (hlen : ∀ sig, parseMethodDescriptor y.desc = some sig → argsL.length = sig.parameters.length)
    (hstack : g.stack = argsL.reverse ++ rest) (hW : 2 * g.monitorRoom + (rest.map fun v => v.category).sum ≤ W9) (hdg : decode c.code g.pc = .ok (.invokestatic index, 3))
    (hpre : ∀ vm₁, s.WarmedH vm₁ → Pre ⟨T.setVm vm₁, locs, cells, slots⟩ argsL.toArray) :
    (∃ (v : Option Value) (vm₁ : Vm) (B : Pt), s.WarmedH vm₁ ∧ Stand p l e R s m args below meth c B.U B.locs B.cells B.slots ∧ Post ⟨T.setVm vm₁, locs, cells, slots⟩ argsL.toArray v B ∧
      ∀ target, Steps p.tables e below (B.U.setTop { g with pc := g.pc + 3, stack := v.toList ++ rest }) target → Steps p.tables e below (T.setTop g) target) ∨
    (∃ (q : Addr) (vm₁ : Vm) (B : Pt), s.WarmedH vm₁ ∧ Stand p l e R s m args below meth c B.U B.locs B.cells B.slots ∧ PostX ⟨T.setVm vm₁, locs, cells, slots⟩ argsL.toArray q B ∧
      Steps p.tables e below (T.setTop g) ((B.U.setTop { g with stack := rest }).pushFrame (.throwing q))) := by
  obtain ⟨mk, methM, cM, hnamed, hmethM, -, -, -, -, -, -, hsigM⟩ := Cond.codeWith_spec hcode
  have hstatic : methM.isStatic = true := Cond.static_spec hnamed hmethM hstat
  obtain ⟨kP, hkP, -⟩ := className_of_methodNamed hnamed
  have hinitP : kP.init = .initialized := Cond.initialized_spec (findClass_of_methodNamed hnamed) hkP hinit
  obtain ⟨vm₁, X₁, hstep₁⟩ := X.invokestatic hexec hown hlink hnamed hmethM hstatic hkP hinitP hy (g := g) hg (argsL := argsL) (rest := rest) (hlen _ hsigM) hstack hdg
  rcases hK m meth c ⟨T.setVm vm₁, locs, cells, slots⟩ { g with stack := rest } (.invokestatic index) mk argsL.toArray X₁ hg hsize hdg hW (X₁.named hnamed) (hpre vm₁ X₁.warmed) with ⟨v, B, X', hpost, hsteps⟩ | ⟨q, B, X', hpost, hsteps⟩
  · exact Or.inl ⟨v, vm₁, B, X₁.warmed, X', hpost, fun target h => hstep₁ _ fun acts => by rw [doInvoke_state]; exact hsteps.trans h⟩
  · exact Or.inr ⟨q, vm₁, B, X₁.warmed, X', hpost, hstep₁ _ fun acts => by rw [doInvoke_state]; exact hsteps⟩
theorem vx_callVW (X : Stand p l e R s m args below meth c T locs cells slots) (hexec : p.tables.exec = Jvm.exec) {own C : String} {index : Nat} {y : MethodName} {bytes : ByteArray} {maxL : Nat} {ret : Option FieldType} {hh : List (Nat × Nat × Nat × Nat)}
    (hown : s.vm.findClass own = some m.cls) (hlink : (Cond.methodLink own index y).before args s = true) (hinst : (Cond.instanceMethod y).before args s = true) (hsel : (Cond.selects C y y).before args s = true)
    (hcode : (Cond.codeWith y bytes maxL ret hh).before args s = true) (hy : y.cls ≠ "java/lang/invoke/MethodHandle" ∧ y.cls ≠ "java/lang/invoke/VarHandle")
    {W9 : Nat} {Pre : Pt → Array Value → Prop} {Post : Pt → Array Value → Option Value → Pt → Prop} (hK : Back l R p e below s args y 3 W9 Pre Post)
    {b : Addr} {cellB : Cell} (hcell : T.heap[b]? = some cellB) (hobj : cellB.vm.isStatics = false) (hcls : s.vm.findClass C = some cellB.cls)
    {g : JFrame} (hg : g.method = m) (hsize : g.locals.size = c.maxLocals) {argsL rest : List Value} (hlen : ∀ sig, parseMethodDescriptor y.desc = some sig → argsL.length = sig.parameters.length)
    (hstack : g.stack = argsL.reverse ++ .ref b :: rest) (hW : 2 * g.monitorRoom + (rest.map fun v => v.category).sum ≤ W9) (hdg : decode c.code g.pc = .ok (.invokevirtual index, 3))
    (hpre : ∀ vm₁, s.WarmedH vm₁ → Pre ⟨T.setVm vm₁, locs, cells, slots⟩ (Value.ref b :: argsL).toArray) :
    ∃ (v : Option Value) (vm₁ : Vm) (B : Pt), s.WarmedH vm₁ ∧ Stand p l e R s m args below meth c B.U B.locs B.cells B.slots ∧ Post ⟨T.setVm vm₁, locs, cells, slots⟩ (Value.ref b :: argsL).toArray v B ∧
      ∀ target, Steps p.tables e below (B.U.setTop { g with pc := g.pc + 3, stack := v.toList ++ rest }) target → Steps p.tables e below (T.setTop g) target := by
  obtain ⟨mk, methM, hnamed, hmethM, hstM, habM⟩ := Cond.instanceMethod_spec hinst
  obtain ⟨m8, methM', cM, hn8, hmethM', -, -, -, -, -, -, hsigM⟩ := Cond.codeWith_spec hcode
  cases Option.some.inj (hn8.symm.trans hnamed)
  cases hmethM.symm.trans hmethM'
  obtain ⟨c2, r2, m2, q1, q2, q3, q4, kP, hkP, hkPi⟩ := Cond.selects_spec hsel
  cases hcls.symm.trans q1
  cases (State.methodFound?_of_named hnamed hy).symm.trans q2
  cases hnamed.symm.trans q3
  have hselP : selectMethod e.platform s.vm cellB.cls mk = .method mk := by rw [Launch.admits_selectMethod X.admits]; exact q4
  obtain ⟨vm₁, X₁, hstep₁⟩ := X.invokevirtual hexec hown hlink hnamed hmethM hstM hkP hkPi hy (a := b) (cell := cellB) hcell
    (fun z h => by rw [h] at hobj; cases hobj) hselP hmethM habM hkP hkPi (g := g) hg (argsL := argsL) (rest := rest) (hlen _ hsigM) hstack hdg
  obtain ⟨v, B, X', hpost, hsteps⟩ := hK m meth c ⟨T.setVm vm₁, locs, cells, slots⟩ { g with stack := rest } (.invokevirtual index) mk (Value.ref b :: argsL).toArray X₁ hg hsize hdg hW (X₁.named hnamed) (hpre vm₁ X₁.warmed)
  exact ⟨v, vm₁, B, X₁.warmed, X', hpost, fun target h => hstep₁ _ fun acts => by rw [doInvoke_state]; exact hsteps.trans h⟩
abbrev vx_CVW (R : Room) (s : State) (args : Array Value) (own C : String) (index : Nat) (y : MethodName) (bytes : ByteArray) (maxL : Nat) (ret : Option FieldType) (hh : List (Nat × Nat × Nat × Nat)) (ws : List Cond) (rm : Room) (mc ms n : Nat) : Prop :=
  (rm.cells = mc ∧ rm.slots = ms ∧ rm.frames + 1 ≤ R.frames ∧ 8 + (maxL + 11) + rm.locals ≤ R.locals ∧ (∀ w ∈ ws, ∀ (a' : Array Value) (U : State), s.WarmedH U.vm → w.before a' U = true) ∧ Cond.codeWith y bytes maxL ret hh ∈ ws) ∧
  (Cond.codeWith y bytes maxL ret hh).before args s = true ∧ (Cond.initialized y.cls).before args s = true ∧ (y.cls ≠ "java/lang/invoke/MethodHandle" ∧ y.cls ≠ "java/lang/invoke/VarHandle") ∧
  (∀ sig, parseMethodDescriptor y.desc = some sig → n = sig.parameters.length) ∧ (Cond.methodLink own index y).before args s = true ∧ (Cond.instanceMethod y).before args s = true ∧ (Cond.selects C y y).before args s = true
theorem vx_cwVW {own C : String} {index maxL mc ms : Nat} {y : MethodName} {bytes : ByteArray} {ret : Option FieldType} {hh : List (Nat × Nat × Nat × Nat)} {Ts ws ws' : List Cond} {rm : Room} (n : Nat) (ht : ∀ w ∈ Ts, w.before args s = true) (hT : GoodIn Ts (wsV own index C y ws)) (hw : ws = Cond.codeWith y bytes maxL ret hh :: ws') (hrc : rm.cells = mc) (hrs : rm.slots = ms)
    (hd : y.cls = C ∧ y.cls ≠ "java/lang/invoke/MethodHandle" ∧ y.cls ≠ "java/lang/invoke/VarHandle" ∧ (parseMethodDescriptor y.desc).map (fun d => d.parameters.length) = some n) (hR : rm.frames + 1 ≤ R.frames ∧ 8 + (maxL + 11) + rm.locals ≤ R.locals) :
    vx_CVW R s args own C index y bytes maxL ret hh ws rm mc ms n := by
  obtain ⟨hC, hd⟩ := hd
  subst hC
  have ok : ∀ w ∈ wsV own index y.cls y ws, w.before args s = true := fun w h => ht w (hT w h).1
  have hG : GoodIn Ts ws := fun w h => hT w (by unfold wsV; exact List.mem_append_right _ h)
  have hc : Cond.codeWith y bytes maxL ret hh ∈ ws := by rw [hw]; exact List.mem_cons_self
  refine ⟨⟨hrc, hrs, hR.1, hR.2, pay_in ht hG, hc⟩, ht _ (hG _ hc).1, ok _ (by simp [wsV]), ⟨hd.1, hd.2.1⟩, fun sig h => ?_, ok _ (by simp [wsV]), ok _ (by simp [wsV]), ok _ (by simp [wsV])⟩
  have h2 := hd.2.2
  rw [h] at h2
  exact (Option.some.inj h2).symm
theorem vx_runVW {y : MethodName} {bytes cc : ByteArray} {maxL nL mc ms n index : Nat} {ret : Option FieldType} {hh : List (Nat × Nat × Nat × Nat)} {ws : List Cond} {rm : Room} {Pc : Array Value → State → Prop} {Qc : Array Value → State → Outcome → State → Prop} {free : Addr → Prop} {Ts : List Cond} {own C : String} {b : Addr} {As rest : List Value} {g : JFrame}
    (S : CallFix p m c cc nL s args Ts own) (hM : Met l y ws rm Pc Qc mc ms free) (cw : vx_CVW R s args own C index y bytes maxL ret hh ws rm mc ms n) (hp : PreV s H C b Pc As)
    (hg : g.method = m) (hn : As.length = n) (hsize : g.locals.size = nL) (hstack : g.stack = As.reverse ++ .ref b :: rest) (hW : 2 * g.monitorRoom + (rest.map fun v => v.category).sum ≤ 8) (hdg : decode cc g.pc = .ok (.invokevirtual index, 3)) (hf : cells + mc ≤ R.cells ∧ slots + ms ≤ R.slots) :
    va_Run p l e R s m args below meth c H locs cells slots mc ms g rest (Qc (Value.ref b :: As).toArray) free := by
  obtain ⟨⟨hrc, hrs, hfr, hlo, hws, hcw⟩, hcode, hini, hy, hlen, hl, hin, hse⟩ := cw
  have hK : Back l R p e below s args y 3 8 (PreOf R mc ms Pc) (PostOf Qc mc ms free) := va_backW (hh := hh) (bytes := bytes) (maxL := maxL) (ret := ret) hM hp.1 hrc hrs hfr hlo hws hcw (fun a' U hW => word_at hW (Or.inl (by first | rfl | simp [Cond.onTables, Cond.keeps, Cond.steady])) hini)
  obtain ⟨hx, hb, hml, ho, -⟩ := S
  obtain ⟨-, ⟨cellB, hcB, hoB, hclB⟩, hPc⟩ := hp
  intro T hT X
  obtain ⟨v, vm₁, ⟨U', l2, c2, s2⟩, hW₁, X', ⟨g', mk, t, L, e1, e2, hq, h1, hL, h2, h3⟩, st⟩ := vx_callVW X hx (C := C) (hh := hh) (bytes := bytes) (maxL := maxL) (ret := ret) ho hl hin hse hcode hy hK (by rw [hT]; exact hcB) hoB hclB hg (hsize.trans hml.symm) (argsL := As) (rest := rest) (fun sig h => hn.trans (hlen sig h)) hstack hW (by rw [hb]; exact hdg)
    (fun vm₁ hW₁ => ⟨hf.1, hf.2, hPc (T.setVm vm₁) hT hW₁⟩)
  dsimp only [Pt.U, Pt.locs, Pt.cells, Pt.slots] at X' e1 e2 h1 h2 h3 st
  subst h1; subst h2; subst h3
  exact ⟨v, (T.setVm vm₁).calling g' mk (Value.ref b :: As).toArray, t, U', L, hT, X', hL, e1, e2, hq, st⟩
section
variable {y : MethodName} {bytes cc : ByteArray} {maxL nL mc ms n index : Nat} {ret : Option FieldType} {ws : List Cond} {rm : Room} {Pc : Array Value → State → Prop} {Qc : Array Value → State → Outcome → State → Prop} {XC : String → State → State → Prop} {free : Addr → Prop} {Ts : List Cond} {own C : String} {b : Addr} {As rest : List Value} {g : JFrame}
theorem vx_runVX {hh : List (Nat × Nat × Nat × Nat)} (S : CallFix p m c cc nL s args Ts own) (hM : vx_Met l y ws rm Pc Qc XC mc ms free) (cw : vx_CVW R s args own C index y bytes maxL ret hh ws rm mc ms n) (hp : PreV s H C b Pc As)
    (hg : g.method = m) (hn : As.length = n) (hsize : g.locals.size = nL) (hstack : g.stack = As.reverse ++ .ref b :: rest) (hW : 2 * g.monitorRoom + (rest.map fun v => v.category).sum ≤ 8) (hdg : decode cc g.pc = .ok (.invokevirtual index, 3)) (hf : cells + mc ≤ R.cells ∧ slots + ms ≤ R.slots) :
    vx_Run p l e R s m args below meth c H locs cells slots mc ms g rest (Qc (Value.ref b :: As).toArray) XC free := by
  obtain ⟨⟨hrc, hrs, hfr, hlo, hws, hcw⟩, hcode, hini, hy, hlen, hl, hin, hse⟩ := cw
  have hK : vx_Back l R p e below s args y 3 8 (PreOf R mc ms Pc) (PostOf Qc mc ms free) (vx_Post XC mc ms free) := vx_backW (hh := hh) (bytes := bytes) (maxL := maxL) (ret := ret) hM hp.1 hrc hrs hfr hlo hws hcw (fun a' U hW => word_at hW (Or.inl (by first | rfl | simp [Cond.onTables, Cond.keeps, Cond.steady])) hini)
  obtain ⟨hx, hb, hml, ho, -⟩ := S
  obtain ⟨-, ⟨cellB, hcB, hoB, hclB⟩, hPc⟩ := hp
  intro T hT X
  rcases vx_callVX X hx (C := C) (hh := hh) (bytes := bytes) (maxL := maxL) (ret := ret) ho hl hin hse hcode hy hK (by rw [hT]; exact hcB) hoB hclB hg (hsize.trans hml.symm) (argsL := As) (rest := rest) (fun sig h => hn.trans (hlen sig h)) hstack hW (by rw [hb]; exact hdg)
    (fun vm₁ hW₁ => ⟨hf.1, hf.2, hPc (T.setVm vm₁) hT hW₁⟩) with ⟨v, vm₁, ⟨U', l2, c2, s2⟩, hW₁, X', ⟨g', mk, t, L, e1, e2, hq, h1, hL, h2, h3⟩, st⟩ | ⟨q, vm₁, ⟨U', l2, c2, s2⟩, hW₁, X', ⟨g', mk, t, L, E, ce, e1, e2, hq, hce, hcv, hcl, h1, hL, h2, h3⟩, st⟩
  · dsimp only [Pt.U, Pt.locs, Pt.cells, Pt.slots] at X' e1 e2 h1 h2 h3 st
    subst h1; subst h2; subst h3
    exact Or.inl ⟨v, (T.setVm vm₁).calling g' mk (Value.ref b :: As).toArray, t, U', L, hT, X', hL, e1, e2, hq, st⟩
  · dsimp only [Pt.U, Pt.locs, Pt.cells, Pt.slots] at X' e1 e2 h1 h2 h3 st hcl
    subst h1; subst h2; subst h3
    exact Or.inr ⟨q, (T.setVm vm₁).calling g' mk (Value.ref b :: As).toArray, t, U', L, E, ce, hT, X', hL, e1, e2, hq, hce, hcv, vx_cls hW₁ hcl, st⟩
theorem vx_runSX {hh : List (Nat × Nat × Nat × Nat)} (S : CallFix p m c cc nL s args Ts own) (hM : vx_Met l y ws rm Pc Qc XC mc ms free) (cw : vx_CSW R s args own index y bytes maxL ret hh ws rm mc ms n) (hp : PreS s H Pc As)
    (hg : g.method = m) (hn : As.length = n) (hsize : g.locals.size = nL) (hstack : g.stack = As.reverse ++ rest) (hW : 2 * g.monitorRoom + (rest.map fun v => v.category).sum ≤ 8) (hdg : decode cc g.pc = .ok (.invokestatic index, 3)) (hf : cells + mc ≤ R.cells ∧ slots + ms ≤ R.slots) :
    vx_Run p l e R s m args below meth c H locs cells slots mc ms g rest (Qc As.toArray) XC free := by
  obtain ⟨⟨hrc, hrs, hfr, hlo, hws, hcw⟩, hcode, hini, hy, hlen, hl, hstt⟩ := cw
  have hK : vx_Back l R p e below s args y 3 8 (PreOf R mc ms Pc) (PostOf Qc mc ms free) (vx_Post XC mc ms free) := vx_backW (hh := hh) (bytes := bytes) (maxL := maxL) (ret := ret) hM hp.1 hrc hrs hfr hlo hws hcw (fun a' U hW => word_at hW (Or.inl (by first | rfl | simp [Cond.onTables, Cond.keeps, Cond.steady])) hini)
  obtain ⟨hx, hb, hml, ho, -⟩ := S
  intro T hT X
  rcases vx_callSX X hx (hh := hh) (bytes := bytes) (maxL := maxL) (ret := ret) ho hl hstt hini hcode hy hK hg (hsize.trans hml.symm) (argsL := As) (rest := rest) (fun sig h => hn.trans (hlen sig h)) hstack hW (by rw [hb]; exact hdg)
    (fun vm₁ hW₁ => ⟨hf.1, hf.2, hp.2 (T.setVm vm₁) hT hW₁⟩) with ⟨v, vm₁, ⟨U', l2, c2, s2⟩, hW₁, X', ⟨g', mk, t, L, e1, e2, hq, h1, hL, h2, h3⟩, st⟩ | ⟨q, vm₁, ⟨U', l2, c2, s2⟩, hW₁, X', ⟨g', mk, t, L, E, ce, e1, e2, hq, hce, hcv, hcl, h1, hL, h2, h3⟩, st⟩
  · dsimp only [Pt.U, Pt.locs, Pt.cells, Pt.slots] at X' e1 e2 h1 h2 h3 st
    subst h1; subst h2; subst h3
    exact Or.inl ⟨v, (T.setVm vm₁).calling g' mk As.toArray, t, U', L, hT, X', hL, e1, e2, hq, st⟩
  · dsimp only [Pt.U, Pt.locs, Pt.cells, Pt.slots] at X' e1 e2 h1 h2 h3 st hcl
    subst h1; subst h2; subst h3
    exact Or.inr ⟨q, (T.setVm vm₁).calling g' mk As.toArray, t, U', L, E, ce, hT, X', hL, e1, e2, hq, hce, hcv, vx_cls hW₁ hcl, st⟩
end
end VXH
theorem vx_ofWH {l : Launch} {y : MethodName} {ws ws' : List Cond} {rm : Room} {Pc : Array Value → State → Prop} {Qc : Array Value → State → Outcome → State → Prop} {XC : String → State → State → Prop} {mc ms : Nat} {free : Addr → Prop} {cc : ByteArray} {maxL : Nat} {ret : Option FieldType} {hh : List (Nat × Nat × Nat × Nat)}
    (hy : plainName y.cls = true) (hw : ws = Cond.codeWith y cc maxL ret hh :: ws')
    (body : ∀ p e s m args below meth c s₁, BodyLoose p l y (headSpec ws rm) cc maxL ret e s m args below meth c s₁ → c.maxLocals = maxL → Pc args s →
      W p l e (headSpec ws rm).room s m args below meth c s.heap [] 0 0 (vx_MQ below Qc XC args s mc ms free) (entryFrame m args maxL)) : vx_Met l y ws rm Pc Qc XC mc ms free := by
  refine MetFree.of_bodyS (code := cc) (maxLocals := maxL) (ret := ret) hy ?_ ?_
  · intro args s m h hn
    obtain ⟨m9, meth, c, hn9, h1, h2, h3, h4, -, h5, h6, -⟩ := Cond.codeWith_spec (atoms_spec (ws := ws) h _ (by rw [hw]; exact List.mem_cons_self))
    cases hn.symm.trans hn9
    exact ⟨meth, c, h1, h2, h3, h4, h5, h6⟩
  · intro p e s m args below meth c s₁ B hml hP _
    have hh0 : s₁.heap = s.heap := by rw [B.state]; rfl
    obtain ⟨t, a1, o, b1, b2, b3⟩ := body p e s m args below meth c s₁ B hml hP s₁ hh0 (Stand.of_body B)
    exact ⟨t, o, a1, b1, b2, b3⟩
/-! ===== END ===== -/

/-! ===== BEGIN what the machine throws by itself, no traces kept ===== -/
section VXM
set_option maxHeartbeats 1000000 in
/-- the machine throws cls with the message text, no traces kept: from its note over the frame g to 'throwing' over the same frame (follows the proofs of Stand.vmThrowsMessage, Shelf/KitTracedVmS.lean, and Stand.throwsMessageColdBareV, StandMessageColdV.lean, without the step out of the frame) -/
theorem vx_vmAt {p : Program} {l : Launch} {e : Env} {R : Room} {s : State} {m₀ : MethodId} {args : Array Value} {below : List Frame} {meth : Method} {c : Code} {W : State} {locs : List Loc} {cells slots : Nat}
    (X : Stand p l e R s m₀ args below meth c W locs cells slots) (hexec : p.tables.exec = Jvm.exec) (htr : e.platform.stackTraces = false) {cls : String} {names : List String} {text : String}
    (hcls : Bundle.fit cls = true) (hnames : ∀ n ∈ names, Bundle.fit n = true) (hsoe : (cls == "java/lang/StackOverflowError") = false) (hoom : (cls == "java/lang/OutOfMemoryError") = false)
    (h : ∀ a ∈ Bundle.messageArmAtoms cls names, a.before args s = true)
    (hlocs : ∀ x ∈ locs, ∀ cell, s.heap[x.base]? = some cell → cell.vm.isStatics = false)
    (htext : (text == notModelled) = false) (hlimit : ¬ (stringBytes (stringToUtf16 text)).size > e.platform.arrayLengthLimit) (hheap : ¬ (stringBytes (stringToUtf16 text)).size * componentBytes .byte > e.platform.maxHeapBytes)
    {g : JFrame} (hg : g.method = m₀) (hsize : g.locals.size = c.maxLocals)
    (hRframes : names.length + 4 < R.frames) (hRlocals : 2 * g.monitorRoom + (g.stack.map fun v => v.category).sum + 10240 ≤ R.locals) (hshort : 13 * names.length + 55 ≤ 10240)
    (hRcells : cells + 3 ≤ R.cells) (hRslots : slots + ((stringBytes (stringToUtf16 text)).size + 4 + 6) ≤ R.slots) (hlocks : meth.locks = false) :
    ∃ (S : State) (q : Addr) (ce : Cell), (∀ target, Steps p.tables e below ((S.setTop g).pushFrame (.throwing q)) target → Steps p.tables e below ((W.setTop g).pushFrame (.throwNew cls (some text) none)) target) ∧
      Stand p l e R s m₀ args below meth c S locs (cells + 3) (slots + ((stringBytes (stringToUtf16 text)).size + 4 + 6)) ∧ S.heap[q]? = some ce ∧ s.vm.findClass cls = some ce.cls ∧ ce.vm = .none := by
  have howns : e.platform.frameOwnsMonitors = true := by rw [X.admits.platform]
  have hfin : e.platform.finalization = false := by rw [X.admits.platform]
  have hpl : e.platform.magicAccessors = ({} : Platform).magicAccessors := by rw [X.admits.platform]
  have a : ∀ x, x ∈ Bundle.messageArmAtoms cls names → x.holds args s none s [] = true := fun x hx => h x hx
  obtain ⟨T, Z0, L, -, Y⟩ := ThrowableC.of_atoms (args := args) howns hfin hpl (fun x hx => h x (by simp [Bundle.messageArmAtoms, hx]))
  obtain ⟨Z, M, LZ, LM, hnZ⟩ := Init0T.ofS_atoms (args := args) hpl L Y (fun x hx => h x (by simp [Bundle.messageArmAtoms, hx]))
  obtain ⟨P1, Ps, hlen, L1, hL, hP1m, hlink1, hlink⟩ := Bundle.chainS (args := args) hpl hnZ names cls hcls hnames (fun x hx => h x (by simp [Bundle.messageArmAtoms, hx]))
  obtain ⟨Zs, LZs, hn4, hfitv, hfitc⟩ := StringT.of_atoms (args := args) (fun x hx => h x (by simp [Bundle.messageArmAtoms, hx]))
  have hfound : s.vm.findClass cls = some P1.m.cls := findClass_of_methodNamed hP1m
  obtain ⟨c1, kX, hc1, hk, hord, -, -, hn6⟩ := Cond.instantiable_spec (a (.instantiable cls 6) (by simp [Bundle.messageArmAtoms]))
  cases Option.some.inj (hc1.symm.trans hfound)
  have hinit := Cond.initialized_spec hfound hk (a (.initialized cls) (by simp [Bundle.messageArmAtoms]))
  have hctor : kX.findMethod "<init>" "(Ljava/lang/String;)V" = some P1.m.idx := findMethod_of_methodNamed hP1m hk
  have hsel0 : selectMethod e.platform s.vm P1.m.cls T.fill0 = .method T.fill0 := by
    obtain ⟨c2, r2, m2, q1, q2, q3, q4, -⟩ := Cond.selects_spec (a (.selects cls Bundle.tFill0 Bundle.tFill0) (by simp [Bundle.messageArmAtoms]))
    cases Option.some.inj (q1.symm.trans hfound)
    cases Option.some.inj (q2.symm.trans (State.methodFound?_of_named Y.fill0 (by decide)))
    cases Option.some.inj (q3.symm.trans Y.fill0)
    rw [Launch.admits_selectMethod X.admits]; exact q4
  have hselF : selectMethod e.platform s.vm P1.m.cls T.fill = .method T.fill := by
    obtain ⟨c2, r2, m2, q1, q2, q3, q4, -⟩ := Cond.selects_spec (a (.selects cls Bundle.tFill Bundle.tFill) (by simp [Bundle.messageArmAtoms]))
    cases Option.some.inj (q1.symm.trans hfound)
    cases Option.some.inj (q2.symm.trans (State.methodFound?_of_named Y.fill (by decide)))
    cases Option.some.inj (q3.symm.trans Y.fill)
    rw [Launch.admits_selectMethod X.admits]; exact q4
  obtain ⟨cellS0, hcS0, hiss⟩ := Y.statics
  obtain ⟨u0, hu0⟩ := Cond.staticRefV Y.unassigned L.unassignedStatic L.statics hcS0 hiss (a (.isRef (.static Bundle.tN "UNASSIGNED_STACK" Bundle.steD)) (by simp [Bundle.messageArmAtoms]))
  obtain ⟨sen, hsen⟩ := Cond.staticRefV Y.sentinel L.sentinelStatic L.statics hcS0 hiss (a (.isRef (.static Bundle.tN "SUPPRESSED_SENTINEL" Bundle.listD)) (by simp [Bundle.messageArmAtoms]))
  obtain ⟨ci198, i198, fB, hk198, hg198, ha198, hsB, -, hnB, htB, hffB⟩ := Cond.ownField (t := .object "java/lang/Object") Y.found L.cls (by decide +kernel) (a (.fieldLink Bundle.tN 198 Bundle.tN "backtrace" "Ljava/lang/Object;") (by simp [Bundle.messageArmAtoms])) (a (.lays Bundle.tN Bundle.tN "backtrace" "Ljava/lang/Object;") (by simp [Bundle.messageArmAtoms])) e.platform hpl
  obtain ⟨cellS, hcS', heS, -, hkeep⟩ := X.same.2.2.2.2.2 T.aS cellS0 hcS0
  have hcellS : W.heap[T.aS]? = some cellS := hcS'
  have hout' : ∀ i, (⟨T.aS, i⟩ : Loc) ∉ locs := fun i hmem => by
    have := hlocs _ hmem cellS0 hcS0
    rw [hiss] at this; cases this
  have hknownS : cellS.vm ≠ .unknown := by
    rw [heS]; intro hu
    rw [show cellS0.vm = .unknown from hu] at hiss
    cases hiss
  have hvU : cellS.slots[T.fUnassigned.slot]? = some u0.v := by rw [hkeep _ (hout' _)]; exact hu0
  have hvSen : cellS.slots[T.fSentinel.slot]? = some sen.v := by rw [hkeep _ (hout' _)]; exact hsen
  obtain ⟨iM, hffM⟩ := Y.msg
  obtain ⟨tyC, dC, hdC, hdnC⟩ := Cond.laysAt hfound hk Y.cause (a (.lays cls Bundle.tN "cause" "Ljava/lang/Throwable;") (by simp [Bundle.messageArmAtoms]))
  obtain ⟨tyS, dS, hdS, hdnS⟩ := Cond.laysAt hfound hk Y.stack (a (.lays cls Bundle.tN "stackTrace" Bundle.steD) (by simp [Bundle.messageArmAtoms]))
  obtain ⟨tyP, dP, hdP, hdnP⟩ := Cond.laysAt hfound hk Y.supp (a (.lays cls Bundle.tN "suppressedExceptions" Bundle.listD) (by simp [Bundle.messageArmAtoms]))
  obtain ⟨tyM, dM, hdM, hdnM⟩ := Cond.laysAt hfound hk hffM (a (.lays cls Bundle.tN "detailMessage" "Ljava/lang/String;") (by simp [Bundle.messageArmAtoms]))
  obtain ⟨tyB, dB, hdB, hdnB⟩ := Cond.laysAt hfound hk hffB (a (.lays cls Bundle.tN "backtrace" "Ljava/lang/Object;") (by simp [Bundle.messageArmAtoms]))
  have bC := Cond.laysApart hdB hdC hdnB hdnC (by rw [hnB, Y.causeName]; decide)
  have bS := Cond.laysApart hdB hdS hdnB hdnS (by rw [hnB, Y.stackName]; decide)
  have bP := Cond.laysApart hdB hdP hdnB hdnP (by rw [hnB, Y.suppName]; decide)
  have hbk : ((preparedCellV T.toThrowableT (freshCell P1.m.cls kX) (W.heap.size + 2) u0 sen).withEntry W.cur).slots[fB.slot]? = some .null := by
    have := fresh_default (c := P1.m.cls) tyB
    rw [htB] at this
    simpa [preparedCellV, Cell.setSlot, Cell.withEntry, Array.getElem?_setIfInBounds, bC, bS, bP, bC.symm, bS.symm, bP.symm, defaultValue] using this
  have tkC := Takes.of_laid (v := .ref (W.heap.size + 2)) hk hord tyC (by rw [Y.causeType]; rfl)
  have tkS := Takes.of_laid (v := u0.v) hk hord tyS (by rw [Y.stackType]; exact fits_refV_array _ u0)
  have tkP := Takes.of_laid (v := sen.v) hk hord tyP (by rw [Y.suppType]; exact fits_refV_object _ sen)
  have tkM := Takes.of_laid (v := .ref (W.heap.size + 1)) hk hord tyM (by rw [Y.msgType]; rfl)
  have hskip : SkipFacts T e.platform s (fun u => u) u0 ((preparedCellV T.toThrowableT (freshCell P1.m.cls kX) (W.heap.size + 2) u0 sen).withEntry W.cur) := ⟨{ ci198 := ci198, i198 := i198, fBack := fB }, ⟨hk198, hg198, ha198, hsB⟩, hbk, fun _ _ => rfl⟩
  have h0 : At W g.method c below := by rw [hg]; exact X.here
  obtain ⟨hbeyond, hfreeW⟩ := X.vmMayThrow hsize (.throwNew cls (some text) none) (fun f hf => by cases hf) rfl hRlocals
  have hfr' : W.frames.length + Ps.length + 4 < (e.platform.stackLimits W.me).1 := by have := X.framesAbove hRframes; omega
  have hwd' : (stackUse (.java g :: W.frames.tail)).2 + 13 * Ps.length + 55 ≤ (e.platform.stackLimits W.me).2 := by have := X.stackAbove hsize (K := 13 * Ps.length + 55) (by omega); omega
  have hslots : W.slotsUsed + (stringBytes (stringToUtf16 text)).size + Zs.kS.instanceTypes.size + kX.instanceTypes.size ≤ e.platform.maxSlots := by
    have := X.slotsAbove hRslots
    rw [hn4, hn6]
    omega
  obtain ⟨vm', hW', st⟩ := Steps.vmThrowsMessageColdByV p (s₀ := s) (S := W) (g := g) h0 hexec T L Z LZ M LM X.warmed (t := W.cur) rfl Zs LZs P1 L1 Ps hL hlink1 hlink hsoe hoom hfound hk hinit hord hctor
    (Launch.admits_hotImplicitExceptions X.admits) hbeyond hfreeW htext hlimit hheap (X.cellsAbove hRcells) hslots (hfitv _) (hfitc _)
    (Nn := fun u => u) heapOnly_id (fun _ _ => rfl) (fun _ => rfl) (fun u x y => setCell_twice _ _ _ _) (fun _ => Nat.le_refl _) (cN := ((preparedCellV T.toThrowableT (freshCell P1.m.cls kX) (W.heap.size + 2) u0 sen).withEntry W.cur))
    hsel0 hcellS hknownS hvU tkS (fun _ hu => hu) (fun _ hu => hu) rfl rfl rfl (by simp [preparedCellV, Cell.setSlot, Cell.withEntry]) hskip (fun _ _ hA hW _ hroom _ hrest => L.nativeOff p htr hA hW hroom hrest) hselF hvSen tkC tkP tkM Y.objLocals rfl hfr' hwd'
  rw [plainBareV_eq T.toThrowableT (W.heap.size + 2) u0 sen (.ref (W.heap.size + 1)) W.cur rfl rfl] at st
  obtain ⟨-, -, w3, w4, -, -, -⟩ := withThrown_facts e.platform W Zs text P1.m.cls kX
  have X3 := ((X.pushed (bytesOf Zs.cB (stringToUtf16 text))).pushed (stringAt Zs.cS Zs.kS Zs.fv Zs.fc (stringToUtf16 text) W.heap.size)).pushed (freshCell P1.m.cls kX)
  rw [← withString_eq] at X3
  have X4 := X3.noted hW'
  have ha : (W.heap.size + 2) < ((withThrown W Zs text P1.m.cls kX).setVm vm').heap.size := by show _ < (withThrown W Zs text P1.m.cls kX).heap.size; rw [w3]; omega
  have hcell : ((withThrown W Zs text P1.m.cls kX).setVm vm').heap[(W.heap.size + 2)]? = some (freshCell P1.m.cls kX) := w4
  have X5 := ((((X4.stored hcell T.fCause.slot (.ref (W.heap.size + 2))).storedAgain ha T.fStack.slot u0.v).storedAgain ha T.fSupp.slot sen.v).storedAgain ha T.fStack.slot u0.v).storedAgain ha T.fMsg.slot (.ref (W.heap.size + 1))
  obtain ⟨g₁, hfrM⟩ := X5.frames_eq
  have hU : ((((withThrown W Zs text P1.m.cls kX).setVm vm').setCell (W.heap.size + 2) (plainBareV T.toThrowableT (freshCell P1.m.cls kX) (W.heap.size + 2) u0 sen (.ref (W.heap.size + 1)))).setTop g).pushFrame (.throwing (W.heap.size + 2)) = (((withThrown W Zs text P1.m.cls kX).setVm vm').setCell (W.heap.size + 2) (plainBareV T.toThrowableT (freshCell P1.m.cls kX) (W.heap.size + 2) u0 sen (.ref (W.heap.size + 1)))).setFrames (.throwing (W.heap.size + 2) :: .java g :: below) := by
    rw [State.pushFrame, State.frames_setTop _ hfrM, State.setTop_of_frames _ hfrM, State.setFrames_setFrames]
  have b1 : (bytesOf Zs.cB (stringToUtf16 text)).slots.size = (stringBytes (stringToUtf16 text)).size := by
    rw [(Cell.writeAll_facts _ _).2.2]; simp [bytes0]
  have b2 : (stringAt Zs.cS Zs.kS Zs.fv Zs.fc (stringToUtf16 text) W.heap.size).slots.size = 4 := by simp [string0, Cell.setSlot, hn4]
  have b3 : (freshCell P1.m.cls kX).slots.size = 6 := by simp [hn6]
  rw [b1, b2, b3] at X5
  have e9 : slots + (stringBytes (stringToUtf16 text)).size + 4 + 6 = slots + ((stringBytes (stringToUtf16 text)).size + 4 + 6) := by omega
  rw [e9] at X5
  simp only [List.append_assoc, List.cons_append, List.nil_append] at X5
  refine ⟨((withThrown W Zs text P1.m.cls kX).setVm vm').setCell (W.heap.size + 2) (plainBareV T.toThrowableT (freshCell P1.m.cls kX) (W.heap.size + 2) u0 sen (.ref (W.heap.size + 1))), W.heap.size + 2, _, fun target ht => st _ (by rw [X.tail, ← hU]; exact ht),
    X5.forget (fun y hy => ?_), heapAt_setCell_self _ ha, hfound, rfl⟩
  simp only [List.mem_cons, List.not_mem_nil, or_false] at hy
  have hge : s.heap.size ≤ W.heap.size := X.same.2.1
  rcases hy with rfl | rfl | rfl | rfl | rfl <;> exact Nat.le_trans hge (Nat.le_add_right _ 2)
set_option maxHeartbeats 1000000 in
/-- the machine throws NullPointerException, no traces kept: from its note over the frame g to 'throwing' over the same frame (follows the proof of Stand.vmThrowsNpe, Shelf42/KT2.lean; throwsNpeColdBareVAt, Shelf42/NT91.lean, called) -/
theorem vx_npeAt {p : Program} {l : Launch} {e : Env} {R : Room} {s : State} {m₀ : MethodId} {args : Array Value} {below : List Frame} {meth : Method} {c : Code} {W : State} {locs : List Loc} {cells slots : Nat}
    (X : Stand p l e R s m₀ args below meth c W locs cells slots) (hexec : p.tables.exec = Jvm.exec) (htr : e.platform.stackTraces = false) {n : Nat}
    (h : ∀ a ∈ Bundle.npeArmAtoms n, a.before args s = true)
    (hlocs : ∀ x ∈ locs, ∀ cell, s.heap[x.base]? = some cell → cell.vm.isStatics = false)
    {g : JFrame} (hg : g.method = m₀) (hsize : g.locals.size = c.maxLocals)
    (hRframes : 7 < R.frames) (hRlocals : 2 * g.monitorRoom + (g.stack.map fun v => v.category).sum + 10240 ≤ R.locals)
    (hRcells : cells + 1 ≤ R.cells) (hRslots : slots + n ≤ R.slots) (hlocks : meth.locks = false) :
    ∃ (S : State) (q : Addr) (ce : Cell), (∀ target, Steps p.tables e below ((S.setTop g).pushFrame (.throwing q)) target → Steps p.tables e below ((W.setTop g).pushFrame (.throwNew "java/lang/NullPointerException" none none)) target) ∧
      Stand p l e R s m₀ args below meth c S locs (cells + 1) (slots + n) ∧ S.heap[q]? = some ce ∧ s.vm.findClass "java/lang/NullPointerException" = some ce.cls ∧ ce.vm = .none := by
  have howns : e.platform.frameOwnsMonitors = true := by rw [X.admits.platform]
  have hfin : e.platform.finalization = false := by rw [X.admits.platform]
  have hpl : e.platform.magicAccessors = ({} : Platform).magicAccessors := by rw [X.admits.platform]
  have hpl2 : e.platform.arrayCloneIsPublic = true := by rw [X.admits.platform]
  have a' : ∀ x, x ∈ Bundle.npeArmAtoms n → x.holds args s none s [] = true := fun x hx => h x hx
  obtain ⟨T, Z, L, LZ, Y⟩ := ThrowableC.of_atoms (args := args) howns hfin hpl (fun x hx => h x (by simp [Bundle.npeArmAtoms, hx]))
  obtain ⟨N, LN, hcN, hnNF, hordN, hffS⟩ := NpeC.of_atoms (args := args) hpl hpl2 L Y (fun x hx => h x (by simp [Bundle.npeArmAtoms, hx]))
  obtain ⟨P1, L1, hP1m, hP1s⟩ := PassC.of_atoms (args := args) (s := s) hpl (X := Bundle.nN) (Y := Bundle.rN) (by decide) (by decide) LibCode.NullPointerException.Init0.at_0 LibCode.NullPointerException.Init0.at_1 LibCode.NullPointerException.Init0.at_4 (fun x hx => h x (by simp [Bundle.npeArmAtoms, hx]))
  obtain ⟨PR, LR, hPRm, hPRs⟩ := PassC.of_atoms (args := args) (s := s) hpl (X := Bundle.rN) (Y := Bundle.eN) (by decide) (by decide) LibCode.RuntimeException.Init0.at_0 LibCode.RuntimeException.Init0.at_1 LibCode.RuntimeException.Init0.at_4 (fun x hx => h x (by simp [Bundle.npeArmAtoms, hx]))
  obtain ⟨PE, LEx, hPEm, hPEs⟩ := PassC.of_atoms (args := args) (s := s) hpl (X := Bundle.eN) (Y := Bundle.tN) (by decide) (by decide) LibCode.Exception.Init0.at_0 LibCode.Exception.Init0.at_1 LibCode.Exception.Init0.at_4 (fun x hx => h x (by simp [Bundle.npeArmAtoms, hx]))
  have hfound : s.vm.findClass Bundle.nN = some P1.m.cls := findClass_of_methodNamed hP1m
  have ecls : N.cN = P1.m.cls := Option.some.inj (hcN.symm.trans hfound)
  have hk : s.vm.classes[P1.m.cls]? = some N.kN := by rw [← ecls]; exact LN.cls
  have hinit := Cond.initialized_spec hfound hk (a' (.initialized Bundle.nN) (by simp [Bundle.npeArmAtoms]))
  have hctor : N.kN.findMethod "<init>" "()V" = some P1.m.idx := findMethod_of_methodNamed hP1m hk
  obtain ⟨c1, k1, hc1, hk1, -, -, -, hn⟩ := Cond.instantiable_spec (a' (.instantiable Bundle.nN n) (by simp [Bundle.npeArmAtoms]))
  cases Option.some.inj (hc1.symm.trans hfound)
  cases Option.some.inj (hk1.symm.trans hk)
  have hfsz : (freshCell P1.m.cls N.kN).slots.size = n := by simp [hn]
  have hlink1 : P1.sup = PR.m := Option.some.inj (hP1s.symm.trans hPRm)
  have hlinkR : PR.sup = PE.m := Option.some.inj (hPRs.symm.trans hPEm)
  have hlinkE : PE.sup = Z.m T.toThrowableT := Option.some.inj (hPEs.symm.trans Y.init0)
  have hLs : ∀ P, P ∈ [PR, PE] → P.Links0 e.platform s := fun P hP => by
    simp only [List.mem_cons, List.not_mem_nil, or_false] at hP
    rcases hP with rfl | rfl
    · exact LR
    · exact LEx
  have hsel0 : selectMethod e.platform s.vm P1.m.cls T.fill0 = .method T.fill0 := by
    obtain ⟨c2, r2, m2, q1, q2, q3, q4, -⟩ := Cond.selects_spec (a' (.selects Bundle.nN Bundle.tFill0 Bundle.tFill0) (by simp [Bundle.npeArmAtoms]))
    cases Option.some.inj (q1.symm.trans hfound)
    cases Option.some.inj (q2.symm.trans (State.methodFound?_of_named Y.fill0 (by decide)))
    cases Option.some.inj (q3.symm.trans Y.fill0)
    rw [Launch.admits_selectMethod X.admits]; exact q4
  have hselF : selectMethod e.platform s.vm P1.m.cls T.fill = .method N.fill := by
    obtain ⟨c2, r2, m2, q1, q2, q3, q4, -⟩ := Cond.selects_spec (a' (.selects Bundle.nN Bundle.tFill Bundle.nFill) (by simp [Bundle.npeArmAtoms]))
    cases Option.some.inj (q1.symm.trans hfound)
    cases Option.some.inj (q2.symm.trans (State.methodFound?_of_named Y.fill (by decide)))
    cases Option.some.inj (q3.symm.trans hnNF)
    rw [Launch.admits_selectMethod X.admits]; exact q4
  obtain ⟨cellS0, hcS0, hiss⟩ := Y.statics
  obtain ⟨u0, hu0⟩ := Cond.staticRefV Y.unassigned L.unassignedStatic L.statics hcS0 hiss (a' (.isRef (.static Bundle.tN "UNASSIGNED_STACK" Bundle.steD)) (by simp [Bundle.npeArmAtoms]))
  obtain ⟨sen, hsen⟩ := Cond.staticRefV Y.sentinel L.sentinelStatic L.statics hcS0 hiss (a' (.isRef (.static Bundle.tN "SUPPRESSED_SENTINEL" Bundle.listD)) (by simp [Bundle.npeArmAtoms]))
  obtain ⟨ci198, i198, fB, hk198, hg198, ha198, hsB, -, hnB, htB, hffB⟩ := Cond.ownField (t := .object "java/lang/Object") Y.found L.cls (by decide +kernel) (a' (.fieldLink Bundle.tN 198 Bundle.tN "backtrace" Bundle.objD) (by simp [Bundle.npeArmAtoms])) (a' (.lays Bundle.tN Bundle.tN "backtrace" Bundle.objD) (by simp [Bundle.npeArmAtoms])) e.platform hpl
  obtain ⟨cellS, hcS', heS, -, hkeep⟩ := X.same.2.2.2.2.2 T.aS cellS0 hcS0
  have hcellS : W.heap[T.aS]? = some cellS := hcS'
  have hout' : ∀ i, (⟨T.aS, i⟩ : Loc) ∉ locs := fun i hmem => by
    have := hlocs _ hmem cellS0 hcS0
    rw [hiss] at this; cases this
  have hknownS : cellS.vm ≠ .unknown := by
    rw [heS]; intro hu
    rw [show cellS0.vm = .unknown from hu] at hiss
    cases hiss
  have hvU : cellS.slots[T.fUnassigned.slot]? = some u0.v := by rw [hkeep _ (hout' _)]; exact hu0
  have hvSen : cellS.slots[T.fSentinel.slot]? = some sen.v := by rw [hkeep _ (hout' _)]; exact hsen
  obtain ⟨tyC, dC, hdC, hdnC⟩ := Cond.laysAt hfound hk Y.cause (a' (.lays Bundle.nN Bundle.tN "cause" "Ljava/lang/Throwable;") (by simp [Bundle.npeArmAtoms]))
  obtain ⟨tyS, dS, hdS, hdnS⟩ := Cond.laysAt hfound hk Y.stack (a' (.lays Bundle.nN Bundle.tN "stackTrace" Bundle.steD) (by simp [Bundle.npeArmAtoms]))
  obtain ⟨tyP, dP, hdP, hdnP⟩ := Cond.laysAt hfound hk Y.supp (a' (.lays Bundle.nN Bundle.tN "suppressedExceptions" Bundle.listD) (by simp [Bundle.npeArmAtoms]))
  obtain ⟨tyX, dX, hdX, hdnX⟩ := Cond.laysAt hfound hk hffS (a' (.lays Bundle.nN Bundle.nN "extendedMessageState" "I") (by simp [Bundle.npeArmAtoms, Bundle.npeAtoms]))
  obtain ⟨hnX, htX⟩ := State.fieldFound?_type hffS (t := .int) (by decide +kernel)
  have xC := Cond.laysApart hdC hdX hdnC hdnX (by rw [hnX, Y.causeName]; decide)
  have xS := Cond.laysApart hdS hdX hdnS hdnX (by rw [hnX, Y.stackName]; decide)
  have xP := Cond.laysApart hdP hdX hdnP hdnX (by rw [hnX, Y.suppName]; decide)
  have hv0 : (freshCell P1.m.cls N.kN).slots[N.fState.slot]? = some (.int 0) := by
    have := fresh_default (c := P1.m.cls) tyX
    rw [htX] at this; exact this
  obtain ⟨tyB, dB, hdB, hdnB⟩ := Cond.laysAt hfound hk hffB (a' (.lays Bundle.nN Bundle.tN "backtrace" Bundle.objD) (by simp [Bundle.npeArmAtoms]))
  have bC := Cond.laysApart hdB hdC hdnB hdnC (by rw [hnB, Y.causeName]; decide)
  have bS := Cond.laysApart hdB hdS hdnB hdnS (by rw [hnB, Y.stackName]; decide)
  have bP := Cond.laysApart hdB hdP hdnB hdnP (by rw [hnB, Y.suppName]; decide)
  have bX := Cond.laysApart hdB hdX hdnB hdnX (by rw [hnB, hnX]; decide)
  have hbk : ((npeCell N.toNpeT (preparedCellV T.toThrowableT (freshCell P1.m.cls N.kN) W.heap.size u0 sen) W.cur).withEntry W.cur).slots[fB.slot]? = some .null := by
    have := fresh_default (c := P1.m.cls) tyB
    rw [htB] at this
    simpa [npeCell, preparedCellV, Cell.setSlot, Cell.withEntry, Array.getElem?_setIfInBounds, bC, bS, bP, bX, bC.symm, bS.symm, bP.symm, bX.symm, defaultValue] using this
  have tkC := Takes.of_laid (v := .ref W.heap.size) hk hordN tyC (by rw [Y.causeType]; rfl)
  have tkS := Takes.of_laid (v := u0.v) hk hordN tyS (by rw [Y.stackType]; exact fits_refV_array _ u0)
  have tkP := Takes.of_laid (v := sen.v) hk hordN tyP (by rw [Y.suppType]; exact fits_refV_object _ sen)
  have tkX := Takes.of_laid (v := .int 1) hk hordN tyX (by rw [htX]; rfl)
  have hskip : SkipFacts T e.platform s (fun u => u) u0 ((npeCell N.toNpeT (preparedCellV T.toThrowableT (freshCell P1.m.cls N.kN) W.heap.size u0 sen) W.cur).withEntry W.cur) := ⟨{ ci198 := ci198, i198 := i198, fBack := fB }, ⟨hk198, hg198, ha198, hsB⟩, hbk, fun _ _ => rfl⟩
  obtain ⟨vm', X3, st, -⟩ := X.throwsNpeColdBareVAt hexec hg hsize T L Z LZ N LN P1 L1 [PR, PE] hLs hlink1 ⟨hlinkR, hlinkE, trivial⟩ hfound hk hinit hordN hctor hsel0 hselF hcellS hknownS hvU hvSen
    hv0 xC xS xP tkC tkS tkP tkX Y.objLocals hskip (fun _ _ hA hW _ hroom _ hrest => L.nativeOff p htr hA hW hroom hrest) (by simpa using hRframes) hRlocals (by simp) hRcells (by rw [hn]; exact hRslots)
  have hlt : W.heap.size < ((W.pushCell (freshCell P1.m.cls N.kN)).setVm vm').heap.size := by
    show W.heap.size < (W.pushCell (freshCell P1.m.cls N.kN)).heap.size
    rw [State.heap_size_pushCell]; omega
  rw [hfsz] at X3
  obtain ⟨g₁, hfrM⟩ := X3.frames_eq
  have hU : ((((W.pushCell (freshCell P1.m.cls N.kN)).setVm vm').setCell W.heap.size (npeBareV T.toThrowableT N.toNpeT (freshCell P1.m.cls N.kN) W.heap.size u0 sen)).setTop g).pushFrame (.throwing W.heap.size) = (((W.pushCell (freshCell P1.m.cls N.kN)).setVm vm').setCell W.heap.size (npeBareV T.toThrowableT N.toNpeT (freshCell P1.m.cls N.kN) W.heap.size u0 sen)).setFrames (.throwing W.heap.size :: .java g :: below) := by
    rw [State.pushFrame, State.frames_setTop _ hfrM, State.setTop_of_frames _ hfrM, State.setFrames_setFrames]
  refine ⟨_, W.heap.size, _, fun target ht => st.trans (by rw [← hU]; exact ht), X3.forget (fun y hy => ?_), heapAt_setCell_self _ hlt, hfound, rfl⟩
  simp only [List.mem_cons, List.not_mem_nil, or_false] at hy
  have hge : s.heap.size ≤ W.heap.size := X.same.2.1
  rcases hy with rfl | rfl | rfl | rfl | rfl <;> exact hge
/-- the words of a machine's NullPointerException, but the four that speak of the heap -/
def vx_atN (n : Nat) : List Cond := (Bundle.npeArmAtoms n).filter vx_no
/-- the words of a machine's throw with a message, but the four that speak of the heap -/
def vx_atM (X : String) (names : List String) : List Cond := (Bundle.messageArmAtoms X names).filter vx_no
section
variable {p : Program} {l : Launch} {e : Env} {R : Room} {s : State} {m : MethodId} {args : Array Value} {below : List Frame} {meth : Method} {c : Code} {H : Heap} {locs : List Loc} {cells slots : Nat}
/-- a frame seen from a rebased start, seen from the first start again -/
theorem vx_back9 {T S : State} {R' : Room} {k n : Nat} (X : Stand p l e R s m args below meth c T locs cells slots) (Y : Stand p l e R' ((T.setVm s.vm).setFrames (.invoking m args :: below)) m args below meth c T [] 0 0) (Z : Stand p l e R' ((T.setVm s.vm).setFrames (.invoking m args :: below)) m args below meth c S [] k n) :
    Stand p l e R s m args below meth c S locs (cells + k) (slots + n) := by
  have hW0 : s.WarmedH ((T.setVm s.vm).setFrames (.invoking m args :: below)).vm := State.WarmedH.refl s
  refine { admits := X.admits, cas := X.cas, clock := X.clock, frames := X.frames, room := X.room, hears := X.hears, method := X.method, code := X.code, here := Z.here, tail := Z.tail, warmed := State.WarmedH.trans hW0 Z.warmed, limits := Z.limits.trans (Y.limits.symm.trans X.limits), bytes := Z.bytes.trans (Y.bytes.symm.trans X.bytes), same := ?_ }
  obtain ⟨e1, e2⟩ := Z.same
  rw [State.setFrames_setFrames] at e1
  have h2 : (T.setVm s.vm).sameButNew (S.setVm s.vm) [] k n := ⟨e1, e2⟩
  have h3 := X.same.trans h2
  rw [List.append_nil] at h3
  exact h3
/-- from the machine's note that E is thrown here with this text -/
def vx_Note (p : Program) (l : Launch) (e : Env) (R : Room) (s : State) (m : MethodId) (args : Array Value) (below : List Frame) (meth : Method) (c : Code) (H : Heap) (locs : List Loc) (cells slots : Nat) (Q : State → Prop) (g : JFrame) (E text : String) : Prop :=
  ∀ T : State, T.heap = H → Stand p l e R s m args below meth c T locs cells slots → ∃ t, Steps p.tables e below ((T.setTop g).pushFrame (.throwNew E (some text) none)) t ∧ Q t
theorem vx_vm {pc : Nat} {ls : Array Slot} {rest : List Value} {Q : State → Prop} (hexec : p.tables.exec = Jvm.exec) (hl : l.stackTraces = false) {cls text : String} {names : List String} {nb : Nat} {A : Nat → Prop}
    (hcls : Bundle.fit cls = true) (hnames : ∀ n ∈ names, Bundle.fit n = true) (hsoe : (cls == "java/lang/StackOverflowError") = false) (hoom : (cls == "java/lang/OutOfMemoryError") = false)
    (hat : ∀ w ∈ vx_atM cls names, w.before args s = true) (hgood : ∀ w ∈ vx_atM cls names, vx_ot w = true)
    (hU : vx_Zq Bundle.tN "UNASSIGNED_STACK" Bundle.steD A s s.heap) (hN : vx_Zq Bundle.tN "SUPPRESSED_SENTINEL" Bundle.listD A s s.heap) (hS : va_S A s.heap H locs) (hsize : ls.size = c.maxLocals)
    (htext : (text == notModelled) = false) (hnb : (stringBytes (stringToUtf16 text)).size ≤ nb) (hnb1 : nb ≤ 1000)
    (hRframes : names.length + 4 < R.frames) (hRlocals : (rest.map fun v => v.category).sum + 10240 ≤ R.locals) (hshort : 13 * names.length + 55 ≤ 10240) (hRcells : cells + 3 ≤ R.cells) (hRslots : slots + (nb + 10) ≤ R.slots) (hlocks : meth.locks = false)
    (k : ∀ (H1 : Heap) (q9 : Addr) (ce : Cell), H.size ≤ H1.size → (∀ q : Nat, q < H.size → H1[q]? = H[q]?) → va_S A s.heap H1 locs → H1[q9]? = some ce → ce.vm = .none → s.vm.findClass cls = some ce.cls → vx_W p l e R s m args below meth c H1 locs (cells + 3) (slots + (nb + 10)) Q (F0 m pc ls rest) q9) :
    vx_Note p l e R s m args below meth c H locs cells slots Q (F0 m pc ls rest) cls text := by
  intro T hT X
  have htr : e.platform.stackTraces = false := (show e.platform.stackTraces = l.stackTraces by rw [X.admits.platform]).trans hl
  have Y := vx_rebase X (R' := { frames := R.frames, locals := R.locals, cells := 3, slots := nb + 10 }) (Nat.le_refl _) (Nat.le_refl _) hRcells hRslots
  have hhp : ((T.setVm s.vm).setFrames (.invoking m args :: below)).heap = H := hT
  have hW0 : s.WarmedH ((T.setVm s.vm).setFrames (.invoking m args :: below)).vm := State.WarmedH.refl s
  have hat' : ∀ w ∈ vx_atM cls names, w.before args ((T.setVm s.vm).setFrames (.invoking m args :: below)) = true := fun w hw => vx_ot_at hW0 rfl (hgood w hw) (hat w hw)
  have hU' : vx_Zq Bundle.tN "UNASSIGNED_STACK" Bundle.steD A ((T.setVm s.vm).setFrames (.invoking m args :: below)) ((T.setVm s.vm).setFrames (.invoking m args :: below)).heap := by rw [hhp]; exact vx_Zq.moved hW0.alike (hU.kept hS.2.1)
  have hN' : vx_Zq Bundle.tN "SUPPRESSED_SENTINEL" Bundle.listD A ((T.setVm s.vm).setFrames (.invoking m args :: below)) ((T.setVm s.vm).setFrames (.invoking m args :: below)).heap := by rw [hhp]; exact vx_Zq.moved hW0.alike (hN.kept hS.2.1)
  obtain ⟨S, q, ce, st, Z, hce, hcl', hv⟩ := vx_vmAt Y hexec htr (cls := cls) (names := names) (text := text) hcls hnames hsoe hoom (vx_own hat' (vx_isRefq hU'.1) (vx_isRefq hN'.1) hU'.2.word hN'.2.word) (fun x hx => nomatch hx) htext
    (by rw [Launch.admits_arrayLengthLimit X.admits]; omega) (by rw [Launch.admits_maxHeapBytes X.admits]; simp only [componentBytes]; omega)
    (g := F0 m pc ls rest) rfl hsize hRframes (by show 2 * 0 + (rest.map fun v => v.category).sum + 10240 ≤ R.locals; omega) hshort (by show 0 + 3 ≤ 3; omega) (by show 0 + (_ + 4 + 6) ≤ nb + 10; omega) hlocks
  obtain ⟨f1, f2⟩ := vx_frame Z.same
  have f1' : H.size ≤ S.heap.size := by rw [← hT]; exact f1
  have f2' : ∀ q : Nat, q < H.size → S.heap[q]? = H[q]? := fun q hq => by
    rw [← hT]
    exact f2 q (by rw [← hT] at hq; exact hq) (fun z hz => nomatch hz)
  have X5 := vx_back9 X Y Z
  have X6 : Stand p l e R s m args below meth c S locs (cells + 3) (slots + (nb + 10)) := { X5 with same := X5.same.mono (by omega) (by omega) }
  obtain ⟨t, a1, b1⟩ := k S.heap q ce f1' f2' ⟨Nat.le_trans hS.1 f1', fun q h1 h2 => (f2' q (Nat.lt_of_lt_of_le h1 hS.1)).trans (hS.2.1 q h1 h2), hS.2.2⟩ hce hv hcl' S rfl X6
  exact ⟨t, st t a1, b1⟩
/-- from the machine's note that NullPointerException is thrown here -/
def vx_NoteN (p : Program) (l : Launch) (e : Env) (R : Room) (s : State) (m : MethodId) (args : Array Value) (below : List Frame) (meth : Method) (c : Code) (H : Heap) (locs : List Loc) (cells slots : Nat) (Q : State → Prop) (g : JFrame) : Prop :=
  ∀ T : State, T.heap = H → Stand p l e R s m args below meth c T locs cells slots → ∃ t, Steps p.tables e below ((T.setTop g).pushFrame (.throwNew "java/lang/NullPointerException" none none)) t ∧ Q t
theorem vx_npe {pc : Nat} {ls : Array Slot} {rest : List Value} {Q : State → Prop} (hexec : p.tables.exec = Jvm.exec) (hl : l.stackTraces = false) {nb : Nat} {A : Nat → Prop}
    (hat : ∀ w ∈ vx_atN nb, w.before args s = true) (hgood : ∀ w ∈ vx_atN nb, vx_ot w = true)
    (hU : vx_Zq Bundle.tN "UNASSIGNED_STACK" Bundle.steD A s s.heap) (hN : vx_Zq Bundle.tN "SUPPRESSED_SENTINEL" Bundle.listD A s s.heap) (hS : va_S A s.heap H locs) (hsize : ls.size = c.maxLocals)
    (hRframes : 7 < R.frames) (hRlocals : (rest.map fun v => v.category).sum + 10240 ≤ R.locals) (hRcells : cells + 1 ≤ R.cells) (hRslots : slots + nb ≤ R.slots) (hlocks : meth.locks = false)
    (k : ∀ (H1 : Heap) (q9 : Addr) (ce : Cell), H.size ≤ H1.size → (∀ q : Nat, q < H.size → H1[q]? = H[q]?) → va_S A s.heap H1 locs → H1[q9]? = some ce → ce.vm = .none → s.vm.findClass "java/lang/NullPointerException" = some ce.cls → vx_W p l e R s m args below meth c H1 locs (cells + 1) (slots + nb) Q (F0 m pc ls rest) q9) :
    vx_NoteN p l e R s m args below meth c H locs cells slots Q (F0 m pc ls rest) := by
  intro T hT X
  have htr : e.platform.stackTraces = false := (show e.platform.stackTraces = l.stackTraces by rw [X.admits.platform]).trans hl
  have Y := vx_rebase X (R' := { frames := R.frames, locals := R.locals, cells := 1, slots := nb }) (Nat.le_refl _) (Nat.le_refl _) hRcells hRslots
  have hhp : ((T.setVm s.vm).setFrames (.invoking m args :: below)).heap = H := hT
  have hW0 : s.WarmedH ((T.setVm s.vm).setFrames (.invoking m args :: below)).vm := State.WarmedH.refl s
  have hat' : ∀ w ∈ vx_atN nb, w.before args ((T.setVm s.vm).setFrames (.invoking m args :: below)) = true := fun w hw => vx_ot_at hW0 rfl (hgood w hw) (hat w hw)
  have hU' : vx_Zq Bundle.tN "UNASSIGNED_STACK" Bundle.steD A ((T.setVm s.vm).setFrames (.invoking m args :: below)) ((T.setVm s.vm).setFrames (.invoking m args :: below)).heap := by rw [hhp]; exact vx_Zq.moved hW0.alike (hU.kept hS.2.1)
  have hN' : vx_Zq Bundle.tN "SUPPRESSED_SENTINEL" Bundle.listD A ((T.setVm s.vm).setFrames (.invoking m args :: below)) ((T.setVm s.vm).setFrames (.invoking m args :: below)).heap := by rw [hhp]; exact vx_Zq.moved hW0.alike (hN.kept hS.2.1)
  obtain ⟨S, q, ce, st, Z, hce, hcl', hv⟩ := vx_npeAt Y hexec htr (n := nb) (vx_own hat' (vx_isRefq hU'.1) (vx_isRefq hN'.1) hU'.2.word hN'.2.word) (fun x hx => nomatch hx)
    (g := F0 m pc ls rest) rfl hsize hRframes (by show 2 * 0 + (rest.map fun v => v.category).sum + 10240 ≤ R.locals; omega) (by show 0 + 1 ≤ 1; omega) (by show 0 + nb ≤ nb; omega) hlocks
  obtain ⟨f1, f2⟩ := vx_frame Z.same
  have f1' : H.size ≤ S.heap.size := by rw [← hT]; exact f1
  have f2' : ∀ q : Nat, q < H.size → S.heap[q]? = H[q]? := fun q hq => by
    rw [← hT]
    exact f2 q (by rw [← hT] at hq; exact hq) (fun z hz => nomatch hz)
  have X5 := vx_back9 X Y Z
  have X6 : Stand p l e R s m args below meth c S locs (cells + 1) (slots + nb) := { X5 with same := X5.same.mono (by omega) (by omega) }
  obtain ⟨t, a1, b1⟩ := k S.heap q ce f1' f2' ⟨Nat.le_trans hS.1 f1', fun q h1 h2 => (f2' q (Nat.lt_of_lt_of_le h1 hS.1)).trans (hS.2.1 q h1 h2), hS.2.2⟩ hce hv hcl' S rfl X6
  exact ⟨t, st t a1, b1⟩
variable {Q : State → Prop} {cc : ByteArray} {pc : Nat} {ls : Array Slot} {rest : List Value}
theorem vx_idivZ (hexec : p.tables.exec = Jvm.exec) (hb : c.code = cc) {a b : Int32} (h0 : b = 0) (d : decode cc pc = .ok (.idiv, 1)) (k : vx_Note p l e R s m args below meth c H locs cells slots Q (F0 m pc ls rest) "java/lang/ArithmeticException" "/ by zero") :
    W p l e R s m args below meth c H locs cells slots Q (F0 m pc ls (.int b :: .int a :: rest)) := by
  intro T hT X
  obtain ⟨t, st, q⟩ := k T hT X
  exact ⟨t, X.idivZero hexec (g := F0 m pc ls (.int b :: .int a :: rest)) rfl (a := a) (rest := rest) (by rw [h0]) (by rw [hb]; exact d) t st, q⟩
theorem vx_iremZ (hexec : p.tables.exec = Jvm.exec) (hb : c.code = cc) {a b : Int32} (h0 : b = 0) (d : decode cc pc = .ok (.irem, 1)) (k : vx_Note p l e R s m args below meth c H locs cells slots Q (F0 m pc ls rest) "java/lang/ArithmeticException" "/ by zero") :
    W p l e R s m args below meth c H locs cells slots Q (F0 m pc ls (.int b :: .int a :: rest)) := by
  intro T hT X
  obtain ⟨t, st, q⟩ := k T hT X
  exact ⟨t, X.iremZero hexec (g := F0 m pc ls (.int b :: .int a :: rest)) rfl (a := a) (rest := rest) (by rw [h0]) (by rw [hb]; exact d) t st, q⟩
theorem vx_ldivZ (hexec : p.tables.exec = Jvm.exec) (hb : c.code = cc) {a b : Int64} (h0 : b = 0) (d : decode cc pc = .ok (.ldiv, 1)) (k : vx_Note p l e R s m args below meth c H locs cells slots Q (F0 m pc ls rest) "java/lang/ArithmeticException" "/ by zero") :
    W p l e R s m args below meth c H locs cells slots Q (F0 m pc ls (.long b :: .long a :: rest)) := by
  intro T hT X
  obtain ⟨t, st, q⟩ := k T hT X
  exact ⟨t, X.ldivZero hexec (g := F0 m pc ls (.long b :: .long a :: rest)) rfl (a := a) (rest := rest) (by rw [h0]) (by rw [hb]; exact d) t st, q⟩
theorem vx_lremZ (hexec : p.tables.exec = Jvm.exec) (hb : c.code = cc) {a b : Int64} (h0 : b = 0) (d : decode cc pc = .ok (.lrem, 1)) (k : vx_Note p l e R s m args below meth c H locs cells slots Q (F0 m pc ls rest) "java/lang/ArithmeticException" "/ by zero") :
    W p l e R s m args below meth c H locs cells slots Q (F0 m pc ls (.long b :: .long a :: rest)) := by
  intro T hT X
  obtain ⟨t, st, q⟩ := k T hT X
  exact ⟨t, X.lremZero hexec (g := F0 m pc ls (.long b :: .long a :: rest)) rfl (a := a) (rest := rest) (by rw [h0]) (by rw [hb]; exact d) t st, q⟩
theorem vx_ialdZ {D : va_G} {cl : List vw_C} {ws : va_W} {tys : List (ClassId × FieldType)} {a : Nat} (hexec : p.tables.exec = Jvm.exec) (hb : c.code = cc) (hK : va_K D cl tys s) (hP : va_P D cl ws H) (q0 t0 : Nat) {cA : ClassId} {n : Nat} {f : Nat → Int32} (ha : ws[q0]? = some (a, .inl (cA, n, .inl f))) (ht : tys[t0]? = some (cA, .int)) {i : Int32} (hout : ¬ vp_in i n) (hdg : decode cc pc = .ok (.iaload, 1))
    (k : ∀ tx : String, tx = (toString "Index " ++ toString i ++ toString " out of bounds for length " ++ toString n : String) → vx_Note p l e R s m args below meth c H locs cells slots Q (F0 m pc ls rest) "java/lang/ArrayIndexOutOfBoundsException" tx) : W p l e R s m args below meth c H locs cells slots Q (F0 m pc ls (.int i :: .ref a :: rest)) := by
  intro T hT X
  obtain ⟨t, st, q⟩ := k _ rfl T hT X
  refine ⟨t, ?_, q⟩
  have h1 := X.ialoadOut hexec (by rw [hT]; exact hP q0 _ ha) ((hK.2 t0 _ ht).1 n (fun j => .int (f j))) (j := i) (by show (i < 0 ∨ (arrV _ _ _).slots.size ≤ _); rw [arrV_size]; exact Classical.byContradiction hout) (g := F0 m pc ls (.int i :: .ref a :: rest)) rfl (rest := rest) rfl (by rw [hb]; exact hdg) t
  simp only [arrV_size] at h1
  exact h1 st
theorem vx_iastZ {D : va_G} {cl : List vw_C} {ws : va_W} {tys : List (ClassId × FieldType)} {a : Nat} (hexec : p.tables.exec = Jvm.exec) (hb : c.code = cc) (hK : va_K D cl tys s) (hP : va_P D cl ws H) (q0 t0 : Nat) {cA : ClassId} {n : Nat} {f : Nat → Int32} (ha : ws[q0]? = some (a, .inl (cA, n, .inl f))) (ht : tys[t0]? = some (cA, .int)) {i : Int32} {x : Int32} (hout : ¬ vp_in i n) (hdg : decode cc pc = .ok (.iastore, 1))
    (k : ∀ tx : String, tx = (toString "Index " ++ toString i ++ toString " out of bounds for length " ++ toString n : String) → vx_Note p l e R s m args below meth c H locs cells slots Q (F0 m pc ls rest) "java/lang/ArrayIndexOutOfBoundsException" tx) : W p l e R s m args below meth c H locs cells slots Q (F0 m pc ls (.int x :: .int i :: .ref a :: rest)) := by
  intro T hT X
  obtain ⟨t, st, q⟩ := k _ rfl T hT X
  refine ⟨t, ?_, q⟩
  have h1 := X.iastoreOut hexec (by rw [hT]; exact hP q0 _ ha) ((hK.2 t0 _ ht).1 n (fun j => .int (f j))) (j := i) (by show (i < 0 ∨ (arrV _ _ _).slots.size ≤ _); rw [arrV_size]; exact Classical.byContradiction hout) (g := F0 m pc ls (.int x :: .int i :: .ref a :: rest)) rfl (rest := rest) rfl (by rw [hb]; exact hdg) t
  simp only [arrV_size] at h1
  exact h1 st
theorem vx_baldZ {D : va_G} {cl : List vw_C} {ws : va_W} {tys : List (ClassId × FieldType)} {a : Nat} (hexec : p.tables.exec = Jvm.exec) (hb : c.code = cc) (hK : va_K D cl tys s) (hP : va_P D cl ws H) (q0 t0 : Nat) {cA : ClassId} {n : Nat} {f : Nat → Int32} (ha : ws[q0]? = some (a, .inl (cA, n, .inl f))) (ht : tys[t0]? = some (cA, .byte)) {i : Int32} (hout : ¬ vp_in i n) (hdg : decode cc pc = .ok (.baload, 1))
    (k : ∀ tx : String, tx = (toString "Index " ++ toString i ++ toString " out of bounds for length " ++ toString n : String) → vx_Note p l e R s m args below meth c H locs cells slots Q (F0 m pc ls rest) "java/lang/ArrayIndexOutOfBoundsException" tx) : W p l e R s m args below meth c H locs cells slots Q (F0 m pc ls (.int i :: .ref a :: rest)) := by
  intro T hT X
  obtain ⟨t, st, q⟩ := k _ rfl T hT X
  refine ⟨t, ?_, q⟩
  have h1 := X.baloadOut hexec (by rw [hT]; exact hP q0 _ ha) ((hK.2 t0 _ ht).1 n (fun j => .int (f j))) (j := i) (by show (i < 0 ∨ (arrV _ _ _).slots.size ≤ _); rw [arrV_size]; exact Classical.byContradiction hout) (g := F0 m pc ls (.int i :: .ref a :: rest)) rfl (rest := rest) rfl (by rw [hb]; exact hdg) t
  simp only [arrV_size] at h1
  exact h1 st
theorem vx_bastZ {D : va_G} {cl : List vw_C} {ws : va_W} {tys : List (ClassId × FieldType)} {a : Nat} (hexec : p.tables.exec = Jvm.exec) (hb : c.code = cc) (hK : va_K D cl tys s) (hP : va_P D cl ws H) (q0 t0 : Nat) {cA : ClassId} {n : Nat} {f : Nat → Int32} (ha : ws[q0]? = some (a, .inl (cA, n, .inl f))) (ht : tys[t0]? = some (cA, .byte)) {i : Int32} {x : Int32} (hout : ¬ vp_in i n) (hdg : decode cc pc = .ok (.bastore, 1))
    (k : ∀ tx : String, tx = (toString "Index " ++ toString i ++ toString " out of bounds for length " ++ toString n : String) → vx_Note p l e R s m args below meth c H locs cells slots Q (F0 m pc ls rest) "java/lang/ArrayIndexOutOfBoundsException" tx) : W p l e R s m args below meth c H locs cells slots Q (F0 m pc ls (.int x :: .int i :: .ref a :: rest)) := by
  intro T hT X
  obtain ⟨t, st, q⟩ := k _ rfl T hT X
  refine ⟨t, ?_, q⟩
  have h1 := X.bastoreOut hexec (by rw [hT]; exact hP q0 _ ha) ((hK.2 t0 _ ht).1 n (fun j => .int (f j))) (j := i) (by show (i < 0 ∨ (arrV _ _ _).slots.size ≤ _); rw [arrV_size]; exact Classical.byContradiction hout) (g := F0 m pc ls (.int x :: .int i :: .ref a :: rest)) rfl (rest := rest) rfl (by rw [hb]; exact hdg) t
  simp only [arrV_size] at h1
  exact h1 st
theorem vx_zaldZ {D : va_G} {cl : List vw_C} {ws : va_W} {tys : List (ClassId × FieldType)} {a : Nat} (hexec : p.tables.exec = Jvm.exec) (hb : c.code = cc) (hK : va_K D cl tys s) (hP : va_P D cl ws H) (q0 t0 : Nat) {cA : ClassId} {n : Nat} {f : Nat → Int32} (ha : ws[q0]? = some (a, .inl (cA, n, .inl f))) (ht : tys[t0]? = some (cA, .boolean)) {i : Int32} (hout : ¬ vp_in i n) (hdg : decode cc pc = .ok (.baload, 1))
    (k : ∀ tx : String, tx = (toString "Index " ++ toString i ++ toString " out of bounds for length " ++ toString n : String) → vx_Note p l e R s m args below meth c H locs cells slots Q (F0 m pc ls rest) "java/lang/ArrayIndexOutOfBoundsException" tx) : W p l e R s m args below meth c H locs cells slots Q (F0 m pc ls (.int i :: .ref a :: rest)) := by
  intro T hT X
  obtain ⟨t, st, q⟩ := k _ rfl T hT X
  refine ⟨t, ?_, q⟩
  have h1 := X.baloadOut hexec (by rw [hT]; exact hP q0 _ ha) ((hK.2 t0 _ ht).1 n (fun j => .int (f j))) (j := i) (by show (i < 0 ∨ (arrV _ _ _).slots.size ≤ _); rw [arrV_size]; exact Classical.byContradiction hout) (g := F0 m pc ls (.int i :: .ref a :: rest)) rfl (rest := rest) rfl (by rw [hb]; exact hdg) t
  simp only [arrV_size] at h1
  exact h1 st
theorem vx_zastZ {D : va_G} {cl : List vw_C} {ws : va_W} {tys : List (ClassId × FieldType)} {a : Nat} (hexec : p.tables.exec = Jvm.exec) (hb : c.code = cc) (hK : va_K D cl tys s) (hP : va_P D cl ws H) (q0 t0 : Nat) {cA : ClassId} {n : Nat} {f : Nat → Int32} (ha : ws[q0]? = some (a, .inl (cA, n, .inl f))) (ht : tys[t0]? = some (cA, .boolean)) {i : Int32} {x : Int32} (hout : ¬ vp_in i n) (hdg : decode cc pc = .ok (.bastore, 1))
    (k : ∀ tx : String, tx = (toString "Index " ++ toString i ++ toString " out of bounds for length " ++ toString n : String) → vx_Note p l e R s m args below meth c H locs cells slots Q (F0 m pc ls rest) "java/lang/ArrayIndexOutOfBoundsException" tx) : W p l e R s m args below meth c H locs cells slots Q (F0 m pc ls (.int x :: .int i :: .ref a :: rest)) := by
  intro T hT X
  obtain ⟨t, st, q⟩ := k _ rfl T hT X
  refine ⟨t, ?_, q⟩
  have h1 := X.bastoreOut hexec (by rw [hT]; exact hP q0 _ ha) ((hK.2 t0 _ ht).1 n (fun j => .int (f j))) (j := i) (by show (i < 0 ∨ (arrV _ _ _).slots.size ≤ _); rw [arrV_size]; exact Classical.byContradiction hout) (g := F0 m pc ls (.int x :: .int i :: .ref a :: rest)) rfl (rest := rest) rfl (by rw [hb]; exact hdg) t
  simp only [arrV_size] at h1
  exact h1 st
theorem vx_caldZ {D : va_G} {cl : List vw_C} {ws : va_W} {tys : List (ClassId × FieldType)} {a : Nat} (hexec : p.tables.exec = Jvm.exec) (hb : c.code = cc) (hK : va_K D cl tys s) (hP : va_P D cl ws H) (q0 t0 : Nat) {cA : ClassId} {n : Nat} {f : Nat → Int32} (ha : ws[q0]? = some (a, .inl (cA, n, .inl f))) (ht : tys[t0]? = some (cA, .char)) {i : Int32} (hout : ¬ vp_in i n) (hdg : decode cc pc = .ok (.caload, 1))
    (k : ∀ tx : String, tx = (toString "Index " ++ toString i ++ toString " out of bounds for length " ++ toString n : String) → vx_Note p l e R s m args below meth c H locs cells slots Q (F0 m pc ls rest) "java/lang/ArrayIndexOutOfBoundsException" tx) : W p l e R s m args below meth c H locs cells slots Q (F0 m pc ls (.int i :: .ref a :: rest)) := by
  intro T hT X
  obtain ⟨t, st, q⟩ := k _ rfl T hT X
  refine ⟨t, ?_, q⟩
  have h1 := X.caloadOut hexec (by rw [hT]; exact hP q0 _ ha) ((hK.2 t0 _ ht).1 n (fun j => .int (f j))) (j := i) (by show (i < 0 ∨ (arrV _ _ _).slots.size ≤ _); rw [arrV_size]; exact Classical.byContradiction hout) (g := F0 m pc ls (.int i :: .ref a :: rest)) rfl (rest := rest) rfl (by rw [hb]; exact hdg) t
  simp only [arrV_size] at h1
  exact h1 st
theorem vx_castZ {D : va_G} {cl : List vw_C} {ws : va_W} {tys : List (ClassId × FieldType)} {a : Nat} (hexec : p.tables.exec = Jvm.exec) (hb : c.code = cc) (hK : va_K D cl tys s) (hP : va_P D cl ws H) (q0 t0 : Nat) {cA : ClassId} {n : Nat} {f : Nat → Int32} (ha : ws[q0]? = some (a, .inl (cA, n, .inl f))) (ht : tys[t0]? = some (cA, .char)) {i : Int32} {x : Int32} (hout : ¬ vp_in i n) (hdg : decode cc pc = .ok (.castore, 1))
    (k : ∀ tx : String, tx = (toString "Index " ++ toString i ++ toString " out of bounds for length " ++ toString n : String) → vx_Note p l e R s m args below meth c H locs cells slots Q (F0 m pc ls rest) "java/lang/ArrayIndexOutOfBoundsException" tx) : W p l e R s m args below meth c H locs cells slots Q (F0 m pc ls (.int x :: .int i :: .ref a :: rest)) := by
  intro T hT X
  obtain ⟨t, st, q⟩ := k _ rfl T hT X
  refine ⟨t, ?_, q⟩
  have h1 := X.castoreOut hexec (by rw [hT]; exact hP q0 _ ha) ((hK.2 t0 _ ht).1 n (fun j => .int (f j))) (j := i) (by show (i < 0 ∨ (arrV _ _ _).slots.size ≤ _); rw [arrV_size]; exact Classical.byContradiction hout) (g := F0 m pc ls (.int x :: .int i :: .ref a :: rest)) rfl (rest := rest) rfl (by rw [hb]; exact hdg) t
  simp only [arrV_size] at h1
  exact h1 st
theorem vx_saldZ {D : va_G} {cl : List vw_C} {ws : va_W} {tys : List (ClassId × FieldType)} {a : Nat} (hexec : p.tables.exec = Jvm.exec) (hb : c.code = cc) (hK : va_K D cl tys s) (hP : va_P D cl ws H) (q0 t0 : Nat) {cA : ClassId} {n : Nat} {f : Nat → Int32} (ha : ws[q0]? = some (a, .inl (cA, n, .inl f))) (ht : tys[t0]? = some (cA, .short)) {i : Int32} (hout : ¬ vp_in i n) (hdg : decode cc pc = .ok (.saload, 1))
    (k : ∀ tx : String, tx = (toString "Index " ++ toString i ++ toString " out of bounds for length " ++ toString n : String) → vx_Note p l e R s m args below meth c H locs cells slots Q (F0 m pc ls rest) "java/lang/ArrayIndexOutOfBoundsException" tx) : W p l e R s m args below meth c H locs cells slots Q (F0 m pc ls (.int i :: .ref a :: rest)) := by
  intro T hT X
  obtain ⟨t, st, q⟩ := k _ rfl T hT X
  refine ⟨t, ?_, q⟩
  have h1 := X.saloadOut hexec (by rw [hT]; exact hP q0 _ ha) ((hK.2 t0 _ ht).1 n (fun j => .int (f j))) (j := i) (by show (i < 0 ∨ (arrV _ _ _).slots.size ≤ _); rw [arrV_size]; exact Classical.byContradiction hout) (g := F0 m pc ls (.int i :: .ref a :: rest)) rfl (rest := rest) rfl (by rw [hb]; exact hdg) t
  simp only [arrV_size] at h1
  exact h1 st
theorem vx_sastZ {D : va_G} {cl : List vw_C} {ws : va_W} {tys : List (ClassId × FieldType)} {a : Nat} (hexec : p.tables.exec = Jvm.exec) (hb : c.code = cc) (hK : va_K D cl tys s) (hP : va_P D cl ws H) (q0 t0 : Nat) {cA : ClassId} {n : Nat} {f : Nat → Int32} (ha : ws[q0]? = some (a, .inl (cA, n, .inl f))) (ht : tys[t0]? = some (cA, .short)) {i : Int32} {x : Int32} (hout : ¬ vp_in i n) (hdg : decode cc pc = .ok (.sastore, 1))
    (k : ∀ tx : String, tx = (toString "Index " ++ toString i ++ toString " out of bounds for length " ++ toString n : String) → vx_Note p l e R s m args below meth c H locs cells slots Q (F0 m pc ls rest) "java/lang/ArrayIndexOutOfBoundsException" tx) : W p l e R s m args below meth c H locs cells slots Q (F0 m pc ls (.int x :: .int i :: .ref a :: rest)) := by
  intro T hT X
  obtain ⟨t, st, q⟩ := k _ rfl T hT X
  refine ⟨t, ?_, q⟩
  have h1 := X.sastoreOut hexec (by rw [hT]; exact hP q0 _ ha) ((hK.2 t0 _ ht).1 n (fun j => .int (f j))) (j := i) (by show (i < 0 ∨ (arrV _ _ _).slots.size ≤ _); rw [arrV_size]; exact Classical.byContradiction hout) (g := F0 m pc ls (.int x :: .int i :: .ref a :: rest)) rfl (rest := rest) rfl (by rw [hb]; exact hdg) t
  simp only [arrV_size] at h1
  exact h1 st
theorem vx_laldZ {D : va_G} {cl : List vw_C} {ws : va_W} {tys : List (ClassId × FieldType)} {a : Nat} (hexec : p.tables.exec = Jvm.exec) (hb : c.code = cc) (hK : va_K D cl tys s) (hP : va_P D cl ws H) (q0 t0 : Nat) {cA : ClassId} {n : Nat} {f : Nat → Int64} (ha : ws[q0]? = some (a, .inl (cA, n, .inr (.inl f)))) (ht : tys[t0]? = some (cA, .long)) {i : Int32} (hout : ¬ vp_in i n) (hdg : decode cc pc = .ok (.laload, 1))
    (k : ∀ tx : String, tx = (toString "Index " ++ toString i ++ toString " out of bounds for length " ++ toString n : String) → vx_Note p l e R s m args below meth c H locs cells slots Q (F0 m pc ls rest) "java/lang/ArrayIndexOutOfBoundsException" tx) : W p l e R s m args below meth c H locs cells slots Q (F0 m pc ls (.int i :: .ref a :: rest)) := by
  intro T hT X
  obtain ⟨t, st, q⟩ := k _ rfl T hT X
  refine ⟨t, ?_, q⟩
  have h1 := X.laloadOut hexec (by rw [hT]; exact hP q0 _ ha) ((hK.2 t0 _ ht).1 n (fun j => .long (f j))) (j := i) (by show (i < 0 ∨ (arrV _ _ _).slots.size ≤ _); rw [arrV_size]; exact Classical.byContradiction hout) (g := F0 m pc ls (.int i :: .ref a :: rest)) rfl (rest := rest) rfl (by rw [hb]; exact hdg) t
  simp only [arrV_size] at h1
  exact h1 st
theorem vx_lastZ {D : va_G} {cl : List vw_C} {ws : va_W} {tys : List (ClassId × FieldType)} {a : Nat} (hexec : p.tables.exec = Jvm.exec) (hb : c.code = cc) (hK : va_K D cl tys s) (hP : va_P D cl ws H) (q0 t0 : Nat) {cA : ClassId} {n : Nat} {f : Nat → Int64} (ha : ws[q0]? = some (a, .inl (cA, n, .inr (.inl f)))) (ht : tys[t0]? = some (cA, .long)) {i : Int32} {x : Int64} (hout : ¬ vp_in i n) (hdg : decode cc pc = .ok (.lastore, 1))
    (k : ∀ tx : String, tx = (toString "Index " ++ toString i ++ toString " out of bounds for length " ++ toString n : String) → vx_Note p l e R s m args below meth c H locs cells slots Q (F0 m pc ls rest) "java/lang/ArrayIndexOutOfBoundsException" tx) : W p l e R s m args below meth c H locs cells slots Q (F0 m pc ls (.long x :: .int i :: .ref a :: rest)) := by
  intro T hT X
  obtain ⟨t, st, q⟩ := k _ rfl T hT X
  refine ⟨t, ?_, q⟩
  have h1 := X.lastoreOut hexec (by rw [hT]; exact hP q0 _ ha) ((hK.2 t0 _ ht).1 n (fun j => .long (f j))) (j := i) (by show (i < 0 ∨ (arrV _ _ _).slots.size ≤ _); rw [arrV_size]; exact Classical.byContradiction hout) (g := F0 m pc ls (.long x :: .int i :: .ref a :: rest)) rfl (rest := rest) rfl (by rw [hb]; exact hdg) t
  simp only [arrV_size] at h1
  exact h1 st
theorem vx_faldZ {D : va_G} {cl : List vw_C} {ws : va_W} {tys : List (ClassId × FieldType)} {a : Nat} (hexec : p.tables.exec = Jvm.exec) (hb : c.code = cc) (hK : va_K D cl tys s) (hP : va_P D cl ws H) (q0 t0 : Nat) {cA : ClassId} {n : Nat} {f : Nat → UInt32} (ha : ws[q0]? = some (a, .inl (cA, n, .inr (.inr (.inl f))))) (ht : tys[t0]? = some (cA, .float)) {i : Int32} (hout : ¬ vp_in i n) (hdg : decode cc pc = .ok (.faload, 1))
    (k : ∀ tx : String, tx = (toString "Index " ++ toString i ++ toString " out of bounds for length " ++ toString n : String) → vx_Note p l e R s m args below meth c H locs cells slots Q (F0 m pc ls rest) "java/lang/ArrayIndexOutOfBoundsException" tx) : W p l e R s m args below meth c H locs cells slots Q (F0 m pc ls (.int i :: .ref a :: rest)) := by
  intro T hT X
  obtain ⟨t, st, q⟩ := k _ rfl T hT X
  refine ⟨t, ?_, q⟩
  have h1 := X.faloadOut hexec (by rw [hT]; exact hP q0 _ ha) ((hK.2 t0 _ ht).1 n (fun j => .float (f j))) (j := i) (by show (i < 0 ∨ (arrV _ _ _).slots.size ≤ _); rw [arrV_size]; exact Classical.byContradiction hout) (g := F0 m pc ls (.int i :: .ref a :: rest)) rfl (rest := rest) rfl (by rw [hb]; exact hdg) t
  simp only [arrV_size] at h1
  exact h1 st
theorem vx_fastZ {D : va_G} {cl : List vw_C} {ws : va_W} {tys : List (ClassId × FieldType)} {a : Nat} (hexec : p.tables.exec = Jvm.exec) (hb : c.code = cc) (hK : va_K D cl tys s) (hP : va_P D cl ws H) (q0 t0 : Nat) {cA : ClassId} {n : Nat} {f : Nat → UInt32} (ha : ws[q0]? = some (a, .inl (cA, n, .inr (.inr (.inl f))))) (ht : tys[t0]? = some (cA, .float)) {i : Int32} {x : UInt32} (hout : ¬ vp_in i n) (hdg : decode cc pc = .ok (.fastore, 1))
    (k : ∀ tx : String, tx = (toString "Index " ++ toString i ++ toString " out of bounds for length " ++ toString n : String) → vx_Note p l e R s m args below meth c H locs cells slots Q (F0 m pc ls rest) "java/lang/ArrayIndexOutOfBoundsException" tx) : W p l e R s m args below meth c H locs cells slots Q (F0 m pc ls (.float x :: .int i :: .ref a :: rest)) := by
  intro T hT X
  obtain ⟨t, st, q⟩ := k _ rfl T hT X
  refine ⟨t, ?_, q⟩
  have h1 := X.fastoreOut hexec (by rw [hT]; exact hP q0 _ ha) ((hK.2 t0 _ ht).1 n (fun j => .float (f j))) (j := i) (by show (i < 0 ∨ (arrV _ _ _).slots.size ≤ _); rw [arrV_size]; exact Classical.byContradiction hout) (g := F0 m pc ls (.float x :: .int i :: .ref a :: rest)) rfl (rest := rest) rfl (by rw [hb]; exact hdg) t
  simp only [arrV_size] at h1
  exact h1 st
theorem vx_daldZ {D : va_G} {cl : List vw_C} {ws : va_W} {tys : List (ClassId × FieldType)} {a : Nat} (hexec : p.tables.exec = Jvm.exec) (hb : c.code = cc) (hK : va_K D cl tys s) (hP : va_P D cl ws H) (q0 t0 : Nat) {cA : ClassId} {n : Nat} {f : Nat → UInt64} (ha : ws[q0]? = some (a, .inl (cA, n, .inr (.inr (.inr (.inl f)))))) (ht : tys[t0]? = some (cA, .double)) {i : Int32} (hout : ¬ vp_in i n) (hdg : decode cc pc = .ok (.daload, 1))
    (k : ∀ tx : String, tx = (toString "Index " ++ toString i ++ toString " out of bounds for length " ++ toString n : String) → vx_Note p l e R s m args below meth c H locs cells slots Q (F0 m pc ls rest) "java/lang/ArrayIndexOutOfBoundsException" tx) : W p l e R s m args below meth c H locs cells slots Q (F0 m pc ls (.int i :: .ref a :: rest)) := by
  intro T hT X
  obtain ⟨t, st, q⟩ := k _ rfl T hT X
  refine ⟨t, ?_, q⟩
  have h1 := X.daloadOut hexec (by rw [hT]; exact hP q0 _ ha) ((hK.2 t0 _ ht).1 n (fun j => .double (f j))) (j := i) (by show (i < 0 ∨ (arrV _ _ _).slots.size ≤ _); rw [arrV_size]; exact Classical.byContradiction hout) (g := F0 m pc ls (.int i :: .ref a :: rest)) rfl (rest := rest) rfl (by rw [hb]; exact hdg) t
  simp only [arrV_size] at h1
  exact h1 st
theorem vx_dastZ {D : va_G} {cl : List vw_C} {ws : va_W} {tys : List (ClassId × FieldType)} {a : Nat} (hexec : p.tables.exec = Jvm.exec) (hb : c.code = cc) (hK : va_K D cl tys s) (hP : va_P D cl ws H) (q0 t0 : Nat) {cA : ClassId} {n : Nat} {f : Nat → UInt64} (ha : ws[q0]? = some (a, .inl (cA, n, .inr (.inr (.inr (.inl f)))))) (ht : tys[t0]? = some (cA, .double)) {i : Int32} {x : UInt64} (hout : ¬ vp_in i n) (hdg : decode cc pc = .ok (.dastore, 1))
    (k : ∀ tx : String, tx = (toString "Index " ++ toString i ++ toString " out of bounds for length " ++ toString n : String) → vx_Note p l e R s m args below meth c H locs cells slots Q (F0 m pc ls rest) "java/lang/ArrayIndexOutOfBoundsException" tx) : W p l e R s m args below meth c H locs cells slots Q (F0 m pc ls (.double x :: .int i :: .ref a :: rest)) := by
  intro T hT X
  obtain ⟨t, st, q⟩ := k _ rfl T hT X
  refine ⟨t, ?_, q⟩
  have h1 := X.dastoreOut hexec (by rw [hT]; exact hP q0 _ ha) ((hK.2 t0 _ ht).1 n (fun j => .double (f j))) (j := i) (by show (i < 0 ∨ (arrV _ _ _).slots.size ≤ _); rw [arrV_size]; exact Classical.byContradiction hout) (g := F0 m pc ls (.double x :: .int i :: .ref a :: rest)) rfl (rest := rest) rfl (by rw [hb]; exact hdg) t
  simp only [arrV_size] at h1
  exact h1 st
theorem vx_arraylengthN (hexec : p.tables.exec = Jvm.exec) (hb : c.code = cc) (hdg : decode cc pc = .ok (.arraylength, 1)) (k : vx_NoteN p l e R s m args below meth c H locs cells slots Q (F0 m pc ls rest)) : W p l e R s m args below meth c H locs cells slots Q (F0 m pc ls (.null :: rest)) := by
  intro T hT X
  obtain ⟨t, st, q⟩ := k T hT X
  exact ⟨t, X.arraylengthNull hexec (g := F0 m pc ls (.null :: rest)) rfl (rest := rest) rfl (by rw [hb]; exact hdg) t st, q⟩
theorem vx_ialoadN (hexec : p.tables.exec = Jvm.exec) (hb : c.code = cc) {i : Int32} (hdg : decode cc pc = .ok (.iaload, 1)) (k : vx_NoteN p l e R s m args below meth c H locs cells slots Q (F0 m pc ls rest)) : W p l e R s m args below meth c H locs cells slots Q (F0 m pc ls (.int i :: .null :: rest)) := by
  intro T hT X
  obtain ⟨t, st, q⟩ := k T hT X
  exact ⟨t, X.ialoadNull hexec (g := F0 m pc ls (.int i :: .null :: rest)) rfl (rest := rest) rfl (by rw [hb]; exact hdg) t st, q⟩
theorem vx_laloadN (hexec : p.tables.exec = Jvm.exec) (hb : c.code = cc) {i : Int32} (hdg : decode cc pc = .ok (.laload, 1)) (k : vx_NoteN p l e R s m args below meth c H locs cells slots Q (F0 m pc ls rest)) : W p l e R s m args below meth c H locs cells slots Q (F0 m pc ls (.int i :: .null :: rest)) := by
  intro T hT X
  obtain ⟨t, st, q⟩ := k T hT X
  exact ⟨t, X.laloadNull hexec (g := F0 m pc ls (.int i :: .null :: rest)) rfl (rest := rest) rfl (by rw [hb]; exact hdg) t st, q⟩
theorem vx_faloadN (hexec : p.tables.exec = Jvm.exec) (hb : c.code = cc) {i : Int32} (hdg : decode cc pc = .ok (.faload, 1)) (k : vx_NoteN p l e R s m args below meth c H locs cells slots Q (F0 m pc ls rest)) : W p l e R s m args below meth c H locs cells slots Q (F0 m pc ls (.int i :: .null :: rest)) := by
  intro T hT X
  obtain ⟨t, st, q⟩ := k T hT X
  exact ⟨t, X.faloadNull hexec (g := F0 m pc ls (.int i :: .null :: rest)) rfl (rest := rest) rfl (by rw [hb]; exact hdg) t st, q⟩
theorem vx_daloadN (hexec : p.tables.exec = Jvm.exec) (hb : c.code = cc) {i : Int32} (hdg : decode cc pc = .ok (.daload, 1)) (k : vx_NoteN p l e R s m args below meth c H locs cells slots Q (F0 m pc ls rest)) : W p l e R s m args below meth c H locs cells slots Q (F0 m pc ls (.int i :: .null :: rest)) := by
  intro T hT X
  obtain ⟨t, st, q⟩ := k T hT X
  exact ⟨t, X.daloadNull hexec (g := F0 m pc ls (.int i :: .null :: rest)) rfl (rest := rest) rfl (by rw [hb]; exact hdg) t st, q⟩
theorem vx_aaloadN (hexec : p.tables.exec = Jvm.exec) (hb : c.code = cc) {i : Int32} (hdg : decode cc pc = .ok (.aaload, 1)) (k : vx_NoteN p l e R s m args below meth c H locs cells slots Q (F0 m pc ls rest)) : W p l e R s m args below meth c H locs cells slots Q (F0 m pc ls (.int i :: .null :: rest)) := by
  intro T hT X
  obtain ⟨t, st, q⟩ := k T hT X
  exact ⟨t, X.aaloadNull hexec (g := F0 m pc ls (.int i :: .null :: rest)) rfl (rest := rest) rfl (by rw [hb]; exact hdg) t st, q⟩
theorem vx_baloadN (hexec : p.tables.exec = Jvm.exec) (hb : c.code = cc) {i : Int32} (hdg : decode cc pc = .ok (.baload, 1)) (k : vx_NoteN p l e R s m args below meth c H locs cells slots Q (F0 m pc ls rest)) : W p l e R s m args below meth c H locs cells slots Q (F0 m pc ls (.int i :: .null :: rest)) := by
  intro T hT X
  obtain ⟨t, st, q⟩ := k T hT X
  exact ⟨t, X.baloadNull hexec (g := F0 m pc ls (.int i :: .null :: rest)) rfl (rest := rest) rfl (by rw [hb]; exact hdg) t st, q⟩
theorem vx_caloadN (hexec : p.tables.exec = Jvm.exec) (hb : c.code = cc) {i : Int32} (hdg : decode cc pc = .ok (.caload, 1)) (k : vx_NoteN p l e R s m args below meth c H locs cells slots Q (F0 m pc ls rest)) : W p l e R s m args below meth c H locs cells slots Q (F0 m pc ls (.int i :: .null :: rest)) := by
  intro T hT X
  obtain ⟨t, st, q⟩ := k T hT X
  exact ⟨t, X.caloadNull hexec (g := F0 m pc ls (.int i :: .null :: rest)) rfl (rest := rest) rfl (by rw [hb]; exact hdg) t st, q⟩
theorem vx_saloadN (hexec : p.tables.exec = Jvm.exec) (hb : c.code = cc) {i : Int32} (hdg : decode cc pc = .ok (.saload, 1)) (k : vx_NoteN p l e R s m args below meth c H locs cells slots Q (F0 m pc ls rest)) : W p l e R s m args below meth c H locs cells slots Q (F0 m pc ls (.int i :: .null :: rest)) := by
  intro T hT X
  obtain ⟨t, st, q⟩ := k T hT X
  exact ⟨t, X.saloadNull hexec (g := F0 m pc ls (.int i :: .null :: rest)) rfl (rest := rest) rfl (by rw [hb]; exact hdg) t st, q⟩
theorem vx_iastoreN (hexec : p.tables.exec = Jvm.exec) (hb : c.code = cc) {x : Int32} {i : Int32} (hdg : decode cc pc = .ok (.iastore, 1)) (k : vx_NoteN p l e R s m args below meth c H locs cells slots Q (F0 m pc ls rest)) : W p l e R s m args below meth c H locs cells slots Q (F0 m pc ls (.int x :: .int i :: .null :: rest)) := by
  intro T hT X
  obtain ⟨t, st, q⟩ := k T hT X
  exact ⟨t, X.iastoreNull hexec (g := F0 m pc ls (.int x :: .int i :: .null :: rest)) rfl (rest := rest) rfl (by rw [hb]; exact hdg) t st, q⟩
theorem vx_lastoreN (hexec : p.tables.exec = Jvm.exec) (hb : c.code = cc) {x : Int64} {i : Int32} (hdg : decode cc pc = .ok (.lastore, 1)) (k : vx_NoteN p l e R s m args below meth c H locs cells slots Q (F0 m pc ls rest)) : W p l e R s m args below meth c H locs cells slots Q (F0 m pc ls (.long x :: .int i :: .null :: rest)) := by
  intro T hT X
  obtain ⟨t, st, q⟩ := k T hT X
  exact ⟨t, X.lastoreNull hexec (g := F0 m pc ls (.long x :: .int i :: .null :: rest)) rfl (rest := rest) rfl (by rw [hb]; exact hdg) t st, q⟩
theorem vx_fastoreN (hexec : p.tables.exec = Jvm.exec) (hb : c.code = cc) {x : UInt32} {i : Int32} (hdg : decode cc pc = .ok (.fastore, 1)) (k : vx_NoteN p l e R s m args below meth c H locs cells slots Q (F0 m pc ls rest)) : W p l e R s m args below meth c H locs cells slots Q (F0 m pc ls (.float x :: .int i :: .null :: rest)) := by
  intro T hT X
  obtain ⟨t, st, q⟩ := k T hT X
  exact ⟨t, X.fastoreNull hexec (g := F0 m pc ls (.float x :: .int i :: .null :: rest)) rfl (rest := rest) rfl (by rw [hb]; exact hdg) t st, q⟩
theorem vx_dastoreN (hexec : p.tables.exec = Jvm.exec) (hb : c.code = cc) {x : UInt64} {i : Int32} (hdg : decode cc pc = .ok (.dastore, 1)) (k : vx_NoteN p l e R s m args below meth c H locs cells slots Q (F0 m pc ls rest)) : W p l e R s m args below meth c H locs cells slots Q (F0 m pc ls (.double x :: .int i :: .null :: rest)) := by
  intro T hT X
  obtain ⟨t, st, q⟩ := k T hT X
  exact ⟨t, X.dastoreNull hexec (g := F0 m pc ls (.double x :: .int i :: .null :: rest)) rfl (rest := rest) rfl (by rw [hb]; exact hdg) t st, q⟩
theorem vx_bastoreN (hexec : p.tables.exec = Jvm.exec) (hb : c.code = cc) {x : Int32} {i : Int32} (hdg : decode cc pc = .ok (.bastore, 1)) (k : vx_NoteN p l e R s m args below meth c H locs cells slots Q (F0 m pc ls rest)) : W p l e R s m args below meth c H locs cells slots Q (F0 m pc ls (.int x :: .int i :: .null :: rest)) := by
  intro T hT X
  obtain ⟨t, st, q⟩ := k T hT X
  exact ⟨t, X.bastoreNull hexec (g := F0 m pc ls (.int x :: .int i :: .null :: rest)) rfl (rest := rest) rfl (by rw [hb]; exact hdg) t st, q⟩
theorem vx_castoreN (hexec : p.tables.exec = Jvm.exec) (hb : c.code = cc) {x : Int32} {i : Int32} (hdg : decode cc pc = .ok (.castore, 1)) (k : vx_NoteN p l e R s m args below meth c H locs cells slots Q (F0 m pc ls rest)) : W p l e R s m args below meth c H locs cells slots Q (F0 m pc ls (.int x :: .int i :: .null :: rest)) := by
  intro T hT X
  obtain ⟨t, st, q⟩ := k T hT X
  exact ⟨t, X.castoreNull hexec (g := F0 m pc ls (.int x :: .int i :: .null :: rest)) rfl (rest := rest) rfl (by rw [hb]; exact hdg) t st, q⟩
theorem vx_sastoreN (hexec : p.tables.exec = Jvm.exec) (hb : c.code = cc) {x : Int32} {i : Int32} (hdg : decode cc pc = .ok (.sastore, 1)) (k : vx_NoteN p l e R s m args below meth c H locs cells slots Q (F0 m pc ls rest)) : W p l e R s m args below meth c H locs cells slots Q (F0 m pc ls (.int x :: .int i :: .null :: rest)) := by
  intro T hT X
  obtain ⟨t, st, q⟩ := k T hT X
  exact ⟨t, X.sastoreNull hexec (g := F0 m pc ls (.int x :: .int i :: .null :: rest)) rfl (rest := rest) rfl (by rw [hb]; exact hdg) t st, q⟩
theorem vx_invokeN {own C : String} {index maxL : Nat} {y : MethodName} {bytes : ByteArray} {ret : Option FieldType} (hexec : p.tables.exec = Jvm.exec) (hb : c.code = cc) (hown : s.vm.findClass own = some m.cls) (hlink : (Cond.methodLink own index y).before args s = true) (hinst : (Cond.instanceMethod y).before args s = true) (hcode : (Cond.code y bytes maxL ret).before args s = true) (hsel : (Cond.selects C y y).before args s = true)
    (hx : y.cls ≠ "java/lang/invoke/MethodHandle" ∧ y.cls ≠ "java/lang/invoke/VarHandle") {As : List Value} (hlen : (parseMethodDescriptor y.desc).map (fun d => d.parameters.length) = some As.length) (hdg : decode cc pc = .ok (.invokevirtual index, 3))
    (k : vx_NoteN p l e R s m args below meth c H locs cells slots Q (F0 m pc ls rest)) {st0 : List Value} (hst : st0 = As.reverse ++ .null :: rest) : W p l e R s m args below meth c H locs cells slots Q (F0 m pc ls st0) := by
  intro T hT X
  obtain ⟨r0, r, hn, hrm, hstR, hsigR⟩ := va_Decl.of hinst hcode
  obtain ⟨c2, r2, m2, q1, q2, q3, q4, kP, hkP, hkPi⟩ := Cond.selects_spec hsel
  cases hn.symm.trans q3
  have hl9 : As.length = r.sig.parameters.length := by
    rw [hsigR] at hlen
    exact (Option.some.inj hlen).symm
  obtain ⟨vm', X1, st1⟩ := X.invokevirtualNull hexec hown hlink hn hrm hstR hkP hkPi hx (g := F0 m pc ls st0) rfl (argsL := As) (rest := rest) hl9 hst (by rw [hb]; exact hdg)
  obtain ⟨t, st, q⟩ := k (T.setVm vm') hT X1
  exact ⟨t, st1 t st, q⟩
theorem vx_newarrayZ {atype : ArrayType} (hexec : p.tables.exec = Jvm.exec) (hb : c.code = cc) {n : Int32} (h0 : n < 0) (hdg : decode cc pc = .ok (.newarray atype, 2)) (k : ∀ tx : String, tx = toString n → vx_Note p l e R s m args below meth c H locs cells slots Q (F0 m pc ls rest) "java/lang/NegativeArraySizeException" tx) : W p l e R s m args below meth c H locs cells slots Q (F0 m pc ls (.int n :: rest)) := by
  intro T hT X
  obtain ⟨t, st, q⟩ := k _ rfl T hT X
  exact ⟨t, X.newarrayNegative hexec (g := F0 m pc ls (.int n :: rest)) rfl h0 (rest := rest) rfl (by rw [hb]; exact hdg) t st, q⟩
end
end VXM
/-! ===== END ===== -/

/-! ===== BEGIN printed: names, fields, word lists, decode rows ===== -/
def RX0 : String := "Remotepane$Change"
def TX0 : u_T := fun k => match k with
  | 0 => ("Remotepane$Change", "picture", "[I", true)
  | 1 => ("Remotepane$Change", "screen", "[I", true)
  | 2 => ("Remotepane$Change", "pictureBefore", "[I", true)
  | 3 => ("Remotepane$Change", "gainByHeight", "[I", true)
  | 4 => ("Remotepane$Change", "sort", "C", false)
  | 5 => ("Remotepane$Change", "cost", "I", false)
  | 6 => ("Remotepane$Change", "gain", "I", false)
  | 7 => ("Remotepane$Change", "first", "I", false)
  | 8 => ("Remotepane$Change", "distance", "I", false)
  | 9 => ("Remotepane$Change", "width", "I", false)
  | _ => ("Remotepane$Change", "height", "I", false)
def tyX0 : Nat → FieldType := fun k => match k with
  | 0 => .array .int
  | 1 => .array .int
  | 2 => .array .int
  | 3 => .array .int
  | 4 => .char
  | 5 => .int
  | 6 => .int
  | 7 => .int
  | 8 => .int
  | 9 => .int
  | _ => .int
abbrev wsX00 : List Cond := u_ws RX0 TX0 11
theorem nmX0 : ∀ a, a < 11 → ∀ b, b < 11 → a ≠ b → (TX0 a).2.1 ≠ (TX0 b).2.1 := by decide +kernel
theorem tyX0_ok : ∀ k, k < 11 → parseFieldDescriptor (TX0 k).2.2.1 = some (tyX0 k) := by decide +kernel
abbrev cX0_init : ByteArray := prog_2_method_1_code
def yX0_init : MethodName := ⟨RX0, "<init>", "([I)V"⟩
abbrev cX0_find : ByteArray := prog_2_method_2_code
def yX0_find : MethodName := ⟨RX0, "find", "()V"⟩
abbrev cX0_isBehind : ByteArray := prog_2_method_3_code
def yX0_isBehind : MethodName := ⟨RX0, "isBehind", "(I)Z"⟩
abbrev cX0_tryCopies : ByteArray := prog_2_method_4_code
def yX0_tryCopies : MethodName := ⟨RX0, "tryCopies", "()V"⟩
abbrev cX0_tryRectangles : ByteArray := prog_2_method_5_code
def yX0_tryRectangles : MethodName := ⟨RX0, "tryRectangles", "(II)V"⟩
abbrev cX0_tryCells : ByteArray := prog_2_method_6_code
def yX0_tryCells : MethodName := ⟨RX0, "tryCells", "()V"⟩
abbrev cX0_gainOf : ByteArray := prog_2_method_7_code
def yX0_gainOf : MethodName := ⟨RX0, "gainOf", "(II)I"⟩
abbrev cX0_consider : ByteArray := prog_2_method_8_code
def yX0_consider : MethodName := ⟨RX0, "consider", "(CIIIII)V"⟩
abbrev cX0_apply : ByteArray := prog_2_method_9_code
def yX0_apply : MethodName := ⟨RX0, "apply", "()V"⟩
abbrev cX0_colourAfter : ByteArray := prog_2_method_10_code
def yX0_colourAfter : MethodName := ⟨RX0, "colourAfter", "(I)I"⟩
def RX1 : String := "Remotepane$Client"
def TX1 : u_T := fun k => match k with
  | 0 => ("Remotepane$Client", "session", "LRemotepane$Session;", true)
  | 1 => ("Remotepane$Client", "colours", "[I", true)
  | 2 => ("Remotepane$Client", "change", "LRemotepane$Change;", true)
  | 3 => ("Remotepane$Client", "bid", "I", false)
  | 4 => ("Remotepane$Client", "money", "I", false)
  | 5 => ("Remotepane$Client", "goneGuesses", "I", false)
  | _ => ("Remotepane$Client", "rightGuesses", "I", false)
def tyX1 : Nat → FieldType := fun k => match k with
  | 0 => .object "Remotepane$Session"
  | 1 => .array .int
  | 2 => .object "Remotepane$Change"
  | 3 => .int
  | 4 => .int
  | 5 => .int
  | _ => .int
abbrev wsX10 : List Cond := u_ws RX1 TX1 7
theorem nmX1 : ∀ a, a < 7 → ∀ b, b < 7 → a ≠ b → (TX1 a).2.1 ≠ (TX1 b).2.1 := by decide +kernel
theorem tyX1_ok : ∀ k, k < 7 → parseFieldDescriptor (TX1 k).2.2.1 = some (tyX1 k) := by decide +kernel
abbrev cX1_init : ByteArray := prog_3_method_1_code
def yX1_init : MethodName := ⟨RX1, "<init>", "(LRemotepane$Session;I)V"⟩
abbrev cX1_countBehind : ByteArray := prog_3_method_2_code
def yX1_countBehind : MethodName := ⟨RX1, "countBehind", "()I"⟩
abbrev cX1_endGuess : ByteArray := prog_3_method_3_code
def yX1_endGuess : MethodName := ⟨RX1, "endGuess", "(Z)V"⟩
def RX2 : String := "Remotepane$Clipboard"
def TX2 : u_T := fun k => match k with
  | 0 => ("Remotepane$Clipboard", "content", "I", false)
  | 1 => ("Remotepane$Clipboard", "kind", "I", false)
  | _ => ("Remotepane$Clipboard", "passed", "I", false)
def tyX2 : Nat → FieldType := fun k => match k with
  | 0 => .int
  | 1 => .int
  | _ => .int
abbrev wsX20 : List Cond := u_ws RX2 TX2 3
theorem nmX2 : ∀ a, a < 3 → ∀ b, b < 3 → a ≠ b → (TX2 a).2.1 ≠ (TX2 b).2.1 := by decide +kernel
theorem tyX2_ok : ∀ k, k < 3 → parseFieldDescriptor (TX2 k).2.2.1 = some (tyX2 k) := by decide +kernel
abbrev cX2_init : ByteArray := prog_4_method_1_code
def yX2_init : MethodName := ⟨RX2, "<init>", "()V"⟩
abbrev cX2_hold : ByteArray := prog_4_method_2_code
def yX2_hold : MethodName := ⟨RX2, "hold", "(III)V"⟩
def RX3 : String := "Remotepane$Key"
def TX3 : u_T := fun k => match k with
  | 0 => ("Remotepane$Key", "client", "LRemotepane$Client;", true)
  | 1 => ("Remotepane$Key", "window", "LRemotepane$Window;", true)
  | 2 => ("Remotepane$Key", "cell", "I", true)
  | _ => ("Remotepane$Key", "colour", "I", true)
def tyX3 : Nat → FieldType := fun k => match k with
  | 0 => .object "Remotepane$Client"
  | 1 => .object "Remotepane$Window"
  | 2 => .int
  | _ => .int
abbrev wsX30 : List Cond := u_ws RX3 TX3 4
theorem nmX3 : ∀ a, a < 4 → ∀ b, b < 4 → a ≠ b → (TX3 a).2.1 ≠ (TX3 b).2.1 := by decide +kernel
theorem tyX3_ok : ∀ k, k < 4 → parseFieldDescriptor (TX3 k).2.2.1 = some (tyX3 k) := by decide +kernel
abbrev cX3_init : ByteArray := prog_5_method_1_code
def yX3_init : MethodName := ⟨RX3, "<init>", "(LRemotepane$Client;LRemotepane$Window;II)V"⟩
def RX4 : String := "Remotepane$Recording"
def TX4 : u_T := fun k => match k with
  | 0 => ("Remotepane$Recording", "noteCells", "[I", true)
  | 1 => ("Remotepane$Recording", "noteColours", "[I", true)
  | 2 => ("Remotepane$Recording", "notesAfterTick", "[I", true)
  | 3 => ("Remotepane$Recording", "lastLook", "[I", true)
  | 4 => ("Remotepane$Recording", "shown", "[I", true)
  | 5 => ("Remotepane$Recording", "ticks", "I", false)
  | _ => ("Remotepane$Recording", "noteCount", "I", false)
def tyX4 : Nat → FieldType := fun k => match k with
  | 0 => .array .int
  | 1 => .array .int
  | 2 => .array .int
  | 3 => .array .int
  | 4 => .array .int
  | 5 => .int
  | _ => .int
abbrev wsX40 : List Cond := u_ws RX4 TX4 7
theorem nmX4 : ∀ a, a < 7 → ∀ b, b < 7 → a ≠ b → (TX4 a).2.1 ≠ (TX4 b).2.1 := by decide +kernel
theorem tyX4_ok : ∀ k, k < 7 → parseFieldDescriptor (TX4 k).2.2.1 = some (tyX4 k) := by decide +kernel
abbrev cX4_init : ByteArray := prog_6_method_1_code
def yX4_init : MethodName := ⟨RX4, "<init>", "()V"⟩
abbrev cX4_begin : ByteArray := prog_6_method_2_code
def yX4_begin : MethodName := ⟨RX4, "begin", "()V"⟩
abbrev cX4_isFull : ByteArray := prog_6_method_3_code
def yX4_isFull : MethodName := ⟨RX4, "isFull", "()Z"⟩
abbrev cX4_look : ByteArray := prog_6_method_4_code
def yX4_look : MethodName := ⟨RX4, "look", "(II)V"⟩
abbrev cX4_endTick : ByteArray := prog_6_method_5_code
def yX4_endTick : MethodName := ⟨RX4, "endTick", "()V"⟩
abbrev cX4_play : ByteArray := prog_6_method_6_code
def yX4_play : MethodName := ⟨RX4, "play", "(I)V"⟩
abbrev cX4_isAsLookedAt : ByteArray := prog_6_method_7_code
def yX4_isAsLookedAt : MethodName := ⟨RX4, "isAsLookedAt", "()Z"⟩
def RX5 : String := "Remotepane$Session"
def TX5 : u_T := fun k => match k with
  | 0 => ("Remotepane$Session", "windows", "[LRemotepane$Window;", true)
  | 1 => ("Remotepane$Session", "pile", "Ljava/util/ArrayList;", true)
  | 2 => ("Remotepane$Session", "keys", "Ljava/util/ArrayList;", true)
  | 3 => ("Remotepane$Session", "colours", "[I", true)
  | 4 => ("Remotepane$Session", "clipboard", "LRemotepane$Clipboard;", true)
  | 5 => ("Remotepane$Session", "transfer", "LRemotepane$Transfer;", true)
  | 6 => ("Remotepane$Session", "recording", "LRemotepane$Recording;", false)
  | 7 => ("Remotepane$Session", "windowCount", "I", false)
  | _ => ("Remotepane$Session", "isHeld", "Z", false)
def tyX5 : Nat → FieldType := fun k => match k with
  | 0 => .array (.object "Remotepane$Window")
  | 1 => .object "java/util/ArrayList"
  | 2 => .object "java/util/ArrayList"
  | 3 => .array .int
  | 4 => .object "Remotepane$Clipboard"
  | 5 => .object "Remotepane$Transfer"
  | 6 => .object "Remotepane$Recording"
  | 7 => .int
  | _ => .boolean
abbrev wsX50 : List Cond := u_ws RX5 TX5 9
theorem nmX5 : ∀ a, a < 9 → ∀ b, b < 9 → a ≠ b → (TX5 a).2.1 ≠ (TX5 b).2.1 := by decide +kernel
theorem tyX5_ok : ∀ k, k < 9 → parseFieldDescriptor (TX5 k).2.2.1 = some (tyX5 k) := by decide +kernel
abbrev cX5_init : ByteArray := prog_7_method_1_code
def yX5_init : MethodName := ⟨RX5, "<init>", "()V"⟩
abbrev cX5_addWindow : ByteArray := prog_7_method_2_code
def yX5_addWindow : MethodName := ⟨RX5, "addWindow", "(LRemotepane$Window;)I"⟩
abbrev cX5_takeFromPile : ByteArray := prog_7_method_3_code
def yX5_takeFromPile : MethodName := ⟨RX5, "takeFromPile", "(LRemotepane$Window;)V"⟩
abbrev cX5_isOnTop : ByteArray := prog_7_method_4_code
def yX5_isOnTop : MethodName := ⟨RX5, "isOnTop", "(LRemotepane$Window;)Z"⟩
abbrev cX5_topShown : ByteArray := prog_7_method_5_code
def yX5_topShown : MethodName := ⟨RX5, "topShown", "()LRemotepane$Window;"⟩
abbrev cX5_topShownAt : ByteArray := prog_7_method_6_code
def yX5_topShownAt : MethodName := ⟨RX5, "topShownAt", "(II)LRemotepane$Window;"⟩
abbrev cX5_colourOfWindows : ByteArray := prog_7_method_7_code
def yX5_colourOfWindows : MethodName := ⟨RX5, "colourOfWindows", "(I)I"⟩
abbrev cX5_repaint : ByteArray := prog_7_method_8_code
def yX5_repaint : MethodName := ⟨RX5, "repaint", "()I"⟩
abbrev cX5_isPainted : ByteArray := prog_7_method_9_code
def yX5_isPainted : MethodName := ⟨RX5, "isPainted", "()Z"⟩
abbrev cX5_isTrue : ByteArray := prog_7_method_10_code
def yX5_isTrue : MethodName := ⟨RX5, "isTrue", "()Z"⟩
abbrev cX5_countKeysOf : ByteArray := prog_7_method_11_code
def yX5_countKeysOf : MethodName := ⟨RX5, "countKeysOf", "(LRemotepane$Window;)I"⟩
abbrev cX5_countKeysBy : ByteArray := prog_7_method_12_code
def yX5_countKeysBy : MethodName := ⟨RX5, "countKeysBy", "(LRemotepane$Client;)I"⟩
abbrev cX5_lastGuessAt : ByteArray := prog_7_method_13_code
def yX5_lastGuessAt : MethodName := ⟨RX5, "lastGuessAt", "(LRemotepane$Client;I)LRemotepane$Key;"⟩
abbrev cX5_advanceMove : ByteArray := prog_7_method_14_code
def yX5_advanceMove : MethodName := ⟨RX5, "advanceMove", "()V"⟩
abbrev cX5_doKeys : ByteArray := prog_7_method_15_code
def yX5_doKeys : MethodName := ⟨RX5, "doKeys", "()V"⟩
abbrev cX5_isRight : ByteArray := prog_7_method_16_code
def yX5_isRight : MethodName := ⟨RX5, "isRight", "(LRemotepane$Key;)Z"⟩
abbrev cX5_lookForRecording : ByteArray := prog_7_method_17_code
def yX5_lookForRecording : MethodName := ⟨RX5, "lookForRecording", "()V"⟩
def RX6 : String := "Remotepane$Transfer"
def TX6 : u_T := fun k => match k with
  | 0 => ("Remotepane$Transfer", "copied", "[I", true)
  | 1 => ("Remotepane$Transfer", "isCopied", "[Z", true)
  | 2 => ("Remotepane$Transfer", "isRunning", "Z", false)
  | _ => ("Remotepane$Transfer", "movesDone", "I", false)
def tyX6 : Nat → FieldType := fun k => match k with
  | 0 => .array .int
  | 1 => .array .boolean
  | 2 => .boolean
  | _ => .int
abbrev wsX60 : List Cond := u_ws RX6 TX6 4
theorem nmX6 : ∀ a, a < 4 → ∀ b, b < 4 → a ≠ b → (TX6 a).2.1 ≠ (TX6 b).2.1 := by decide +kernel
theorem tyX6_ok : ∀ k, k < 4 → parseFieldDescriptor (TX6 k).2.2.1 = some (tyX6 k) := by decide +kernel
abbrev cX6_init : ByteArray := prog_8_method_1_code
def yX6_init : MethodName := ⟨RX6, "<init>", "()V"⟩
abbrev cX6_begin : ByteArray := prog_8_method_2_code
def yX6_begin : MethodName := ⟨RX6, "begin", "()V"⟩
abbrev cX6_isOther : ByteArray := prog_8_method_3_code
def yX6_isOther : MethodName := ⟨RX6, "isOther", "([II)Z"⟩
abbrev cX6_countRowsLeft : ByteArray := prog_8_method_4_code
def yX6_countRowsLeft : MethodName := ⟨RX6, "countRowsLeft", "([I)I"⟩
abbrev cX6_advance : ByteArray := prog_8_method_5_code
def yX6_advance : MethodName := ⟨RX6, "advance", "([I)Z"⟩
abbrev cX6_nextRow : ByteArray := prog_8_method_6_code
def yX6_nextRow : MethodName := ⟨RX6, "nextRow", "([I)I"⟩
def RX7 : String := "Remotepane$Window"
def TX7 : u_T := fun k => match k with
  | 0 => ("Remotepane$Window", "width", "I", true)
  | 1 => ("Remotepane$Window", "height", "I", true)
  | 2 => ("Remotepane$Window", "cells", "[I", true)
  | 3 => ("Remotepane$Window", "column", "I", false)
  | 4 => ("Remotepane$Window", "row", "I", false)
  | 5 => ("Remotepane$Window", "isOpen", "Z", false)
  | 6 => ("Remotepane$Window", "isShown", "Z", false)
  | 7 => ("Remotepane$Window", "isSecret", "Z", false)
  | 8 => ("Remotepane$Window", "isSilent", "Z", false)
  | _ => ("Remotepane$Window", "caret", "I", false)
def tyX7 : Nat → FieldType := fun k => match k with
  | 0 => .int
  | 1 => .int
  | 2 => .array .int
  | 3 => .int
  | 4 => .int
  | 5 => .boolean
  | 6 => .boolean
  | 7 => .boolean
  | 8 => .boolean
  | _ => .int
abbrev wsX70 : List Cond := u_ws RX7 TX7 10
theorem nmX7 : ∀ a, a < 10 → ∀ b, b < 10 → a ≠ b → (TX7 a).2.1 ≠ (TX7 b).2.1 := by decide +kernel
theorem tyX7_ok : ∀ k, k < 10 → parseFieldDescriptor (TX7 k).2.2.1 = some (tyX7 k) := by decide +kernel
abbrev cX7_init : ByteArray := prog_9_method_1_code
def yX7_init : MethodName := ⟨RX7, "<init>", "(IIII)V"⟩
abbrev cX7_covers : ByteArray := prog_9_method_2_code
def yX7_covers : MethodName := ⟨RX7, "covers", "(II)Z"⟩
abbrev cX7_colourAt : ByteArray := prog_9_method_3_code
def yX7_colourAt : MethodName := ⟨RX7, "colourAt", "(II)I"⟩
abbrev cX7_fillPart : ByteArray := prog_9_method_4_code
def yX7_fillPart : MethodName := ⟨RX7, "fillPart", "(IIIII)I"⟩
abbrev cX7_cellAhead : ByteArray := prog_9_method_5_code
def yX7_cellAhead : MethodName := ⟨RX7, "cellAhead", "(I)I"⟩
abbrev cX7_placeOf : ByteArray := prog_9_method_6_code
def yX7_placeOf : MethodName := ⟨RX7, "placeOf", "(I)I"⟩
abbrev cX7_put : ByteArray := prog_9_method_7_code
def yX7_put : MethodName := ⟨RX7, "put", "(I)V"⟩
def RX8 : String := "Remotepane"
def TX8 : u_T := fun k => match k with
  | 0 => ("Remotepane", "sessions", "[LRemotepane$Session;", true)
  | 1 => ("Remotepane", "clients", "[LRemotepane$Client;", true)
  | 2 => ("Remotepane", "rights", "[Z", true)
  | _ => ("Remotepane", "carriedUnits", "J", false)
def tyX8 : Nat → FieldType := fun k => match k with
  | 0 => .array (.object "Remotepane$Session")
  | 1 => .array (.object "Remotepane$Client")
  | 2 => .array .boolean
  | _ => .long
abbrev wsX80 : List Cond := u_ws RX8 TX8 4
theorem nmX8 : ∀ a, a < 4 → ∀ b, b < 4 → a ≠ b → (TX8 a).2.1 ≠ (TX8 b).2.1 := by decide +kernel
theorem tyX8_ok : ∀ k, k < 4 → parseFieldDescriptor (TX8 k).2.2.1 = some (tyX8 k) := by decide +kernel
abbrev cX8_init : ByteArray := prog_1_method_1_code
def yX8_init : MethodName := ⟨RX8, "<init>", "()V"⟩
abbrev cX8_openSession : ByteArray := prog_1_method_2_code
def yX8_openSession : MethodName := ⟨RX8, "openSession", "()I"⟩
abbrev cX8_openWindow : ByteArray := prog_1_method_3_code
def yX8_openWindow : MethodName := ⟨RX8, "openWindow", "(IIIII)I"⟩
abbrev cX8_closeWindow : ByteArray := prog_1_method_4_code
def yX8_closeWindow : MethodName := ⟨RX8, "closeWindow", "(II)Z"⟩
abbrev cX8_moveWindow : ByteArray := prog_1_method_5_code
def yX8_moveWindow : MethodName := ⟨RX8, "moveWindow", "(IIII)I"⟩
abbrev cX8_raise : ByteArray := prog_1_method_6_code
def yX8_raise : MethodName := ⟨RX8, "raise", "(II)Z"⟩
abbrev cX8_show : ByteArray := prog_1_method_7_code
def yX8_show : MethodName := ⟨RX8, "show", "(IIZ)Z"⟩
abbrev cX8_mark : ByteArray := prog_1_method_8_code
def yX8_mark : MethodName := ⟨RX8, "mark", "(IIZZ)Z"⟩
abbrev cX8_draw : ByteArray := prog_1_method_9_code
def yX8_draw : MethodName := ⟨RX8, "draw", "(IIIIIII)I"⟩
abbrev cX8_screen : ByteArray := prog_1_method_10_code
def yX8_screen : MethodName := ⟨RX8, "screen", "(III)I"⟩
abbrev cX8_join : ByteArray := prog_1_method_11_code
def yX8_join : MethodName := ⟨RX8, "join", "(II)I"⟩
abbrev cX8_bid : ByteArray := prog_1_method_12_code
def yX8_bid : MethodName := ⟨RX8, "bid", "(II)I"⟩
abbrev cX8_money : ByteArray := prog_1_method_13_code
def yX8_money : MethodName := ⟨RX8, "money", "(I)I"⟩
abbrev cX8_picture : ByteArray := prog_1_method_14_code
def yX8_picture : MethodName := ⟨RX8, "picture", "(III)I"⟩
abbrev cX8_seen : ByteArray := prog_1_method_15_code
def yX8_seen : MethodName := ⟨RX8, "seen", "(III)I"⟩
abbrev cX8_behind : ByteArray := prog_1_method_16_code
def yX8_behind : MethodName := ⟨RX8, "behind", "(I)I"⟩
abbrev cX8_next : ByteArray := prog_1_method_17_code
def yX8_next : MethodName := ⟨RX8, "next", "(I)C"⟩
abbrev cX8_nextCost : ByteArray := prog_1_method_18_code
def yX8_nextCost : MethodName := ⟨RX8, "nextCost", "(I)I"⟩
abbrev cX8_tick : ByteArray := prog_1_method_19_code
def yX8_tick : MethodName := ⟨RX8, "tick", "(I)I"⟩
abbrev cX8_carried : ByteArray := prog_1_method_20_code
def yX8_carried : MethodName := ⟨RX8, "carried", "()J"⟩
abbrev cX8_type : ByteArray := prog_1_method_21_code
def yX8_type : MethodName := ⟨RX8, "type", "(IC)I"⟩
abbrev cX8_guesses : ByteArray := prog_1_method_22_code
def yX8_guesses : MethodName := ⟨RX8, "guesses", "(I)I"⟩
abbrev cX8_copy : ByteArray := prog_1_method_24_code
def yX8_copy : MethodName := ⟨RX8, "copy", "(III)I"⟩
abbrev cX8_allow : ByteArray := prog_1_method_25_code
def yX8_allow : MethodName := ⟨RX8, "allow", "(IIIZ)Z"⟩
abbrev cX8_paste : ByteArray := prog_1_method_26_code
def yX8_paste : MethodName := ⟨RX8, "paste", "(II)I"⟩
abbrev cX8_move : ByteArray := prog_1_method_27_code
def yX8_move : MethodName := ⟨RX8, "move", "(I)Z"⟩
abbrev cX8_left : ByteArray := prog_1_method_28_code
def yX8_left : MethodName := ⟨RX8, "left", "(I)I"⟩
abbrev cX8_host : ByteArray := prog_1_method_29_code
def yX8_host : MethodName := ⟨RX8, "host", "(I)I"⟩
abbrev cX8_record : ByteArray := prog_1_method_30_code
def yX8_record : MethodName := ⟨RX8, "record", "(I)I"⟩
abbrev cX8_played : ByteArray := prog_1_method_31_code
def yX8_played : MethodName := ⟨RX8, "played", "(IIII)I"⟩
abbrev cX8_noted : ByteArray := prog_1_method_32_code
def yX8_noted : MethodName := ⟨RX8, "noted", "(I)I"⟩
abbrev cX8_isConsistent : ByteArray := prog_1_method_34_code
def yX8_isConsistent : MethodName := ⟨RX8, "isConsistent", "()Z"⟩
abbrev cX8_isWithin : ByteArray := prog_1_method_35_code
def yX8_isWithin : MethodName := ⟨RX8, "isWithin", "(III)Z"⟩
abbrev cX8_isScreenCell : ByteArray := prog_1_method_36_code
def yX8_isScreenCell : MethodName := ⟨RX8, "isScreenCell", "(II)Z"⟩
abbrev cX8_isWindowPlace : ByteArray := prog_1_method_37_code
def yX8_isWindowPlace : MethodName := ⟨RX8, "isWindowPlace", "(II)Z"⟩
abbrev cX8_isSize : ByteArray := prog_1_method_38_code
def yX8_isSize : MethodName := ⟨RX8, "isSize", "(II)Z"⟩
abbrev cX8_screenCell : ByteArray := prog_1_method_39_code
def yX8_screenCell : MethodName := ⟨RX8, "screenCell", "(II)I"⟩
abbrev cX8_rightNumber : ByteArray := prog_1_method_40_code
def yX8_rightNumber : MethodName := ⟨RX8, "rightNumber", "(III)I"⟩
abbrev cX8_isSession : ByteArray := prog_1_method_41_code
def yX8_isSession : MethodName := ⟨RX8, "isSession", "(I)Z"⟩
abbrev cX8_sessionAt : ByteArray := prog_1_method_42_code
def yX8_sessionAt : MethodName := ⟨RX8, "sessionAt", "(I)LRemotepane$Session;"⟩
abbrev cX8_windowAt : ByteArray := prog_1_method_43_code
def yX8_windowAt : MethodName := ⟨RX8, "windowAt", "(LRemotepane$Session;I)LRemotepane$Window;"⟩
abbrev cX8_clientAt : ByteArray := prog_1_method_44_code
def yX8_clientAt : MethodName := ⟨RX8, "clientAt", "(I)LRemotepane$Client;"⟩
abbrev cX8_nextChange : ByteArray := prog_1_method_45_code
def yX8_nextChange : MethodName := ⟨RX8, "nextChange", "(I)LRemotepane$Change;"⟩
abbrev cX8_canPass : ByteArray := prog_1_method_46_code
def yX8_canPass : MethodName := ⟨RX8, "canPass", "(LRemotepane$Clipboard;I)Z"⟩
abbrev cX8_passTick : ByteArray := prog_1_method_47_code
def yX8_passTick : MethodName := ⟨RX8, "passTick", "()I"⟩
abbrev cX8_runLine : ByteArray := prog_1_method_48_code
def yX8_runLine : MethodName := ⟨RX8, "runLine", "()I"⟩
abbrev cX8_richestServed : ByteArray := prog_1_method_49_code
def yX8_richestServed : MethodName := ⟨RX8, "richestServed", "(I)LRemotepane$Client;"⟩
def RX9 : String := "RemotepaneModel"
def TX9 : u_T := fun k => match k with
  | _ => ("", "", "", false)
def tyX9 : Nat → FieldType := fun k => match k with
  | _ => .int
abbrev wsX90 : List Cond := u_ws RX9 TX9 0
theorem nmX9 : ∀ a, a < 0 → ∀ b, b < 0 → a ≠ b → (TX9 a).2.1 ≠ (TX9 b).2.1 := by decide +kernel
theorem tyX9_ok : ∀ k, k < 0 → parseFieldDescriptor (TX9 k).2.2.1 = some (tyX9 k) := by decide +kernel
def RJx145de : String := "java/io/Serializable"
def TJx145de : u_T := fun k => match k with
  | _ => ("", "", "", false)
def tyJx145de : Nat → FieldType := fun k => match k with
  | _ => .int
abbrev wsJx145de0 : List Cond := u_ws RJx145de TJx145de 0
theorem nmJx145de : ∀ a, a < 0 → ∀ b, b < 0 → a ≠ b → (TJx145de a).2.1 ≠ (TJx145de b).2.1 := by decide +kernel
theorem tyJx145de_ok : ∀ k, k < 0 → parseFieldDescriptor (TJx145de k).2.2.1 = some (tyJx145de k) := by decide +kernel
def RJx00060 : String := "java/lang/ArrayIndexOutOfBoundsException"
def TJx00060 : u_T := fun k => match k with
  | 0 => ("java/lang/Throwable", "backtrace", "Ljava/lang/Object;", false)
  | 1 => ("java/lang/Throwable", "detailMessage", "Ljava/lang/String;", false)
  | 2 => ("java/lang/Throwable", "cause", "Ljava/lang/Throwable;", false)
  | 3 => ("java/lang/Throwable", "stackTrace", "[Ljava/lang/StackTraceElement;", false)
  | 4 => ("java/lang/Throwable", "depth", "I", false)
  | _ => ("java/lang/Throwable", "suppressedExceptions", "Ljava/util/List;", false)
def tyJx00060 : Nat → FieldType := fun k => match k with
  | 0 => .object "java/lang/Object"
  | 1 => .object "java/lang/String"
  | 2 => .object "java/lang/Throwable"
  | 3 => .array (.object "java/lang/StackTraceElement")
  | 4 => .int
  | _ => .object "java/util/List"
abbrev wsJx000600 : List Cond := u_ws RJx00060 TJx00060 6
theorem nmJx00060 : ∀ a, a < 6 → ∀ b, b < 6 → a ≠ b → (TJx00060 a).2.1 ≠ (TJx00060 b).2.1 := by decide +kernel
theorem tyJx00060_ok : ∀ k, k < 6 → parseFieldDescriptor (TJx00060 k).2.2.1 = some (tyJx00060 k) := by decide +kernel
abbrev cJx00060_init_a7421 : ByteArray := prog_13_method_2_code
def yJx00060_init_a7421 : MethodName := ⟨RJx00060, "<init>", "(Ljava/lang/String;)V"⟩
def RJx9f9b0 : String := "java/lang/CharSequence"
def TJx9f9b0 : u_T := fun k => match k with
  | _ => ("", "", "", false)
def tyJx9f9b0 : Nat → FieldType := fun k => match k with
  | _ => .int
abbrev wsJx9f9b00 : List Cond := u_ws RJx9f9b0 TJx9f9b0 0
theorem nmJx9f9b0 : ∀ a, a < 0 → ∀ b, b < 0 → a ≠ b → (TJx9f9b0 a).2.1 ≠ (TJx9f9b0 b).2.1 := by decide +kernel
theorem tyJx9f9b0_ok : ∀ k, k < 0 → parseFieldDescriptor (TJx9f9b0 k).2.2.1 = some (tyJx9f9b0 k) := by decide +kernel
def RJx8e188 : String := "java/lang/Cloneable"
def TJx8e188 : u_T := fun k => match k with
  | _ => ("", "", "", false)
def tyJx8e188 : Nat → FieldType := fun k => match k with
  | _ => .int
abbrev wsJx8e1880 : List Cond := u_ws RJx8e188 TJx8e188 0
theorem nmJx8e188 : ∀ a, a < 0 → ∀ b, b < 0 → a ≠ b → (TJx8e188 a).2.1 ≠ (TJx8e188 b).2.1 := by decide +kernel
theorem tyJx8e188_ok : ∀ k, k < 0 → parseFieldDescriptor (TJx8e188 k).2.2.1 = some (tyJx8e188 k) := by decide +kernel
def RJxb160c : String := "java/lang/Comparable"
def TJxb160c : u_T := fun k => match k with
  | _ => ("", "", "", false)
def tyJxb160c : Nat → FieldType := fun k => match k with
  | _ => .int
abbrev wsJxb160c0 : List Cond := u_ws RJxb160c TJxb160c 0
theorem nmJxb160c : ∀ a, a < 0 → ∀ b, b < 0 → a ≠ b → (TJxb160c a).2.1 ≠ (TJxb160c b).2.1 := by decide +kernel
theorem tyJxb160c_ok : ∀ k, k < 0 → parseFieldDescriptor (TJxb160c k).2.2.1 = some (tyJxb160c k) := by decide +kernel
def RJxab1ab : String := "java/lang/Iterable"
def TJxab1ab : u_T := fun k => match k with
  | _ => ("", "", "", false)
def tyJxab1ab : Nat → FieldType := fun k => match k with
  | _ => .int
abbrev wsJxab1ab0 : List Cond := u_ws RJxab1ab TJxab1ab 0
theorem nmJxab1ab : ∀ a, a < 0 → ∀ b, b < 0 → a ≠ b → (TJxab1ab a).2.1 ≠ (TJxab1ab b).2.1 := by decide +kernel
theorem tyJxab1ab_ok : ∀ k, k < 0 → parseFieldDescriptor (TJxab1ab k).2.2.1 = some (tyJxab1ab k) := by decide +kernel
def RJ9 : String := "java/lang/Math"
def TJ9 : u_T := fun k => match k with
  | _ => ("", "", "", false)
def tyJ9 : Nat → FieldType := fun k => match k with
  | _ => .int
abbrev wsJ90 : List Cond := u_ws RJ9 TJ9 0
theorem nmJ9 : ∀ a, a < 0 → ∀ b, b < 0 → a ≠ b → (TJ9 a).2.1 ≠ (TJ9 b).2.1 := by decide +kernel
theorem tyJ9_ok : ∀ k, k < 0 → parseFieldDescriptor (TJ9 k).2.2.1 = some (tyJ9 k) := by decide +kernel
abbrev cJ9_max_7cf53 : ByteArray := prog_22_method_65_code
def yJ9_max_7cf53 : MethodName := ⟨RJ9, "max", "(II)I"⟩
abbrev cJ9_min_7cf53 : ByteArray := prog_22_method_69_code
def yJ9_min_7cf53 : MethodName := ⟨RJ9, "min", "(II)I"⟩
def RJ0 : String := "java/lang/String"
def TJ0 : u_T := fun k => match k with
  | 0 => ("java/lang/String", "value", "[B", true)
  | _ => ("java/lang/String", "coder", "B", true)
def tyJ0 : Nat → FieldType := fun k => match k with
  | 0 => .array .byte
  | _ => .byte
abbrev wsJ00 : List Cond := u_ws RJ0 TJ0 2
theorem nmJ0 : ∀ a, a < 2 → ∀ b, b < 2 → a ≠ b → (TJ0 a).2.1 ≠ (TJ0 b).2.1 := by decide +kernel
theorem tyJ0_ok : ∀ k, k < 2 → parseFieldDescriptor (TJ0 k).2.2.1 = some (tyJ0 k) := by decide +kernel
abbrev cJ0_charAt_5068e : ByteArray := prog_24_method_56_code
def yJ0_charAt_5068e : MethodName := ⟨RJ0, "charAt", "(I)C"⟩
abbrev cJ0_isLatin1_aae02 : ByteArray := prog_24_method_154_code
def yJ0_isLatin1_aae02 : MethodName := ⟨RJ0, "isLatin1", "()Z"⟩
abbrev cJ0_checkIndex_df160 : ByteArray := prog_24_method_155_code
def yJ0_checkIndex_df160 : MethodName := ⟨RJ0, "checkIndex", "(II)V"⟩
def RJ1 : String := "java/lang/StringLatin1"
def TJ1 : u_T := fun k => match k with
  | _ => ("", "", "", false)
def tyJ1 : Nat → FieldType := fun k => match k with
  | _ => .int
abbrev wsJ10 : List Cond := u_ws RJ1 TJ1 0
theorem nmJ1 : ∀ a, a < 0 → ∀ b, b < 0 → a ≠ b → (TJ1 a).2.1 ≠ (TJ1 b).2.1 := by decide +kernel
theorem tyJ1_ok : ∀ k, k < 0 → parseFieldDescriptor (TJ1 k).2.2.1 = some (tyJ1 k) := by decide +kernel
abbrev cJ1_charAt_3b067 : ByteArray := prog_25_method_2_code
def yJ1_charAt_3b067 : MethodName := ⟨RJ1, "charAt", "([BI)C"⟩
def RJ2 : String := "java/lang/StringUTF16"
def TJ2 : u_T := fun k => match k with
  | _ => ("", "", "", false)
def tyJ2 : Nat → FieldType := fun k => match k with
  | _ => .int
abbrev wsJ20 : List Cond := u_ws RJ2 TJ2 0
theorem nmJ2 : ∀ a, a < 0 → ∀ b, b < 0 → a ≠ b → (TJ2 a).2.1 ≠ (TJ2 b).2.1 := by decide +kernel
theorem tyJ2_ok : ∀ k, k < 0 → parseFieldDescriptor (TJ2 k).2.2.1 = some (tyJ2 k) := by decide +kernel
abbrev cJ2_getChar_3b067 : ByteArray := prog_26_method_5_code
def yJ2_getChar_3b067 : MethodName := ⟨RJ2, "getChar", "([BI)C"⟩
abbrev cJ2_length_9d52b : ByteArray := prog_26_method_6_code
def yJ2_length_9d52b : MethodName := ⟨RJ2, "length", "([B)I"⟩
abbrev cJ2_charAt_3b067 : ByteArray := prog_26_method_83_code
def yJ2_charAt_3b067 : MethodName := ⟨RJ2, "charAt", "([BI)C"⟩
abbrev cJ2_checkIndex_2214a : ByteArray := prog_26_method_91_code
def yJ2_checkIndex_2214a : MethodName := ⟨RJ2, "checkIndex", "(I[B)V"⟩
def RJ10 : String := "java/lang/System"
def TJ10 : u_T := fun k => match k with
  | _ => ("", "", "", false)
def tyJ10 : Nat → FieldType := fun k => match k with
  | _ => .int
abbrev wsJ100 : List Cond := u_ws RJ10 TJ10 0
theorem nmJ10 : ∀ a, a < 0 → ∀ b, b < 0 → a ≠ b → (TJ10 a).2.1 ≠ (TJ10 b).2.1 := by decide +kernel
theorem tyJ10_ok : ∀ k, k < 0 → parseFieldDescriptor (TJ10 k).2.2.1 = some (tyJ10 k) := by decide +kernel
def RJxfd54e : String := "java/lang/constant/Constable"
def TJxfd54e : u_T := fun k => match k with
  | _ => ("", "", "", false)
def tyJxfd54e : Nat → FieldType := fun k => match k with
  | _ => .int
abbrev wsJxfd54e0 : List Cond := u_ws RJxfd54e TJxfd54e 0
theorem nmJxfd54e : ∀ a, a < 0 → ∀ b, b < 0 → a ≠ b → (TJxfd54e a).2.1 ≠ (TJxfd54e b).2.1 := by decide +kernel
theorem tyJxfd54e_ok : ∀ k, k < 0 → parseFieldDescriptor (TJxfd54e k).2.2.1 = some (tyJxfd54e k) := by decide +kernel
def RJx3cf43 : String := "java/lang/constant/ConstantDesc"
def TJx3cf43 : u_T := fun k => match k with
  | _ => ("", "", "", false)
def tyJx3cf43 : Nat → FieldType := fun k => match k with
  | _ => .int
abbrev wsJx3cf430 : List Cond := u_ws RJx3cf43 TJx3cf43 0
theorem nmJx3cf43 : ∀ a, a < 0 → ∀ b, b < 0 → a ≠ b → (TJx3cf43 a).2.1 ≠ (TJx3cf43 b).2.1 := by decide +kernel
theorem tyJx3cf43_ok : ∀ k, k < 0 → parseFieldDescriptor (TJx3cf43 k).2.2.1 = some (tyJx3cf43 k) := by decide +kernel
def RJxa1e45 : String := "java/util/AbstractCollection"
def TJxa1e45 : u_T := fun k => match k with
  | _ => ("", "", "", false)
def tyJxa1e45 : Nat → FieldType := fun k => match k with
  | _ => .int
abbrev wsJxa1e450 : List Cond := u_ws RJxa1e45 TJxa1e45 0
theorem nmJxa1e45 : ∀ a, a < 0 → ∀ b, b < 0 → a ≠ b → (TJxa1e45 a).2.1 ≠ (TJxa1e45 b).2.1 := by decide +kernel
theorem tyJxa1e45_ok : ∀ k, k < 0 → parseFieldDescriptor (TJxa1e45 k).2.2.1 = some (tyJxa1e45 k) := by decide +kernel
abbrev cJxa1e45_init_da8c8 : ByteArray := prog_32_method_1_code
def yJxa1e45_init_da8c8 : MethodName := ⟨RJxa1e45, "<init>", "()V"⟩
def RJxc12de : String := "java/util/AbstractList"
def TJxc12de : u_T := fun k => match k with
  | _ => ("", "", "", false)
def tyJxc12de : Nat → FieldType := fun k => match k with
  | _ => .int
abbrev wsJxc12de0 : List Cond := u_ws RJxc12de TJxc12de 0
theorem nmJxc12de : ∀ a, a < 0 → ∀ b, b < 0 → a ≠ b → (TJxc12de a).2.1 ≠ (TJxc12de b).2.1 := by decide +kernel
theorem tyJxc12de_ok : ∀ k, k < 0 → parseFieldDescriptor (TJxc12de k).2.2.1 = some (tyJxc12de k) := by decide +kernel
abbrev cJxc12de_init_da8c8 : ByteArray := prog_33_method_1_code
def yJxc12de_init_da8c8 : MethodName := ⟨RJxc12de, "<init>", "()V"⟩
def RJx4a65c : String := "java/util/ArrayList"
def TJx4a65c : u_T := fun k => match k with
  | 0 => ("java/util/AbstractList", "modCount", "I", false)
  | 1 => ("java/util/ArrayList", "elementData", "[Ljava/lang/Object;", false)
  | _ => ("java/util/ArrayList", "size", "I", false)
def tyJx4a65c : Nat → FieldType := fun k => match k with
  | 0 => .int
  | 1 => .array (.object "java/lang/Object")
  | _ => .int
abbrev wsJx4a65c0 : List Cond := u_ws RJx4a65c TJx4a65c 3
theorem nmJx4a65c : ∀ a, a < 3 → ∀ b, b < 3 → a ≠ b → (TJx4a65c a).2.1 ≠ (TJx4a65c b).2.1 := by decide +kernel
theorem tyJx4a65c_ok : ∀ k, k < 3 → parseFieldDescriptor (TJx4a65c k).2.2.1 = some (tyJx4a65c k) := by decide +kernel
abbrev cJx4a65c_init_da8c8 : ByteArray := prog_34_method_2_code
def yJx4a65c_init_da8c8 : MethodName := ⟨RJx4a65c, "<init>", "()V"⟩
abbrev cJx4a65c_grow_92f84 : ByteArray := prog_34_method_6_code
def yJx4a65c_grow_92f84 : MethodName := ⟨RJx4a65c, "grow", "(I)[Ljava/lang/Object;"⟩
abbrev cJx4a65c_grow_d5877 : ByteArray := prog_34_method_7_code
def yJx4a65c_grow_d5877 : MethodName := ⟨RJx4a65c, "grow", "()[Ljava/lang/Object;"⟩
abbrev cJx4a65c_size_8abf5 : ByteArray := prog_34_method_8_code
def yJx4a65c_size_8abf5 : MethodName := ⟨RJx4a65c, "size", "()I"⟩
abbrev cJx4a65c_elementData_915e3 : ByteArray := prog_34_method_18_code
def yJx4a65c_elementData_915e3 : MethodName := ⟨RJx4a65c, "elementData", "(I)Ljava/lang/Object;"⟩
abbrev cJx4a65c_get_915e3 : ByteArray := prog_34_method_20_code
def yJx4a65c_get_915e3 : MethodName := ⟨RJx4a65c, "get", "(I)Ljava/lang/Object;"⟩
abbrev cJx4a65c_add_72be8 : ByteArray := prog_34_method_24_code
def yJx4a65c_add_72be8 : MethodName := ⟨RJx4a65c, "add", "(Ljava/lang/Object;[Ljava/lang/Object;I)V"⟩
abbrev cJx4a65c_add_9ea2d : ByteArray := prog_34_method_25_code
def yJx4a65c_add_9ea2d : MethodName := ⟨RJx4a65c, "add", "(Ljava/lang/Object;)Z"⟩
abbrev cJx4a65c_remove_915e3 : ByteArray := prog_34_method_29_code
def yJx4a65c_remove_915e3 : MethodName := ⟨RJx4a65c, "remove", "(I)Ljava/lang/Object;"⟩
abbrev cJx4a65c_fastRemove_b59b0 : ByteArray := prog_34_method_39_code
def yJx4a65c_fastRemove_b59b0 : MethodName := ⟨RJx4a65c, "fastRemove", "([Ljava/lang/Object;I)V"⟩
abbrev cJx4a65c_clear_da8c8 : ByteArray := prog_34_method_40_code
def yJx4a65c_clear_da8c8 : MethodName := ⟨RJx4a65c, "clear", "()V"⟩
def RJ7 : String := "java/util/Arrays"
def TJ7 : u_T := fun k => match k with
  | _ => ("", "", "", false)
def tyJ7 : Nat → FieldType := fun k => match k with
  | _ => .int
abbrev wsJ70 : List Cond := u_ws RJ7 TJ7 0
theorem nmJ7 : ∀ a, a < 0 → ∀ b, b < 0 → a ≠ b → (TJ7 a).2.1 ≠ (TJ7 b).2.1 := by decide +kernel
theorem tyJ7_ok : ∀ k, k < 0 → parseFieldDescriptor (TJ7 k).2.2.1 = some (tyJ7 k) := by decide +kernel
abbrev cJ7_fill_53178 : ByteArray := prog_35_method_103_code
def yJ7_fill_53178 : MethodName := ⟨RJ7, "fill", "([II)V"⟩
abbrev cJ7_copyOf_1904c : ByteArray := prog_35_method_119_code
def yJ7_copyOf_1904c : MethodName := ⟨RJ7, "copyOf", "([Ljava/lang/Object;I)[Ljava/lang/Object;"⟩
abbrev cJ7_copyOf_6403c : ByteArray := prog_35_method_120_code
def yJ7_copyOf_6403c : MethodName := ⟨RJ7, "copyOf", "([Ljava/lang/Object;ILjava/lang/Class;)[Ljava/lang/Object;"⟩
def RJx5ef63 : String := "java/util/Collection"
def TJx5ef63 : u_T := fun k => match k with
  | _ => ("", "", "", false)
def tyJx5ef63 : Nat → FieldType := fun k => match k with
  | _ => .int
abbrev wsJx5ef630 : List Cond := u_ws RJx5ef63 TJx5ef63 0
theorem nmJx5ef63 : ∀ a, a < 0 → ∀ b, b < 0 → a ≠ b → (TJx5ef63 a).2.1 ≠ (TJx5ef63 b).2.1 := by decide +kernel
theorem tyJx5ef63_ok : ∀ k, k < 0 → parseFieldDescriptor (TJx5ef63 k).2.2.1 = some (tyJx5ef63 k) := by decide +kernel
def RJxbd725 : String := "java/util/List"
def TJxbd725 : u_T := fun k => match k with
  | _ => ("", "", "", false)
def tyJxbd725 : Nat → FieldType := fun k => match k with
  | _ => .int
abbrev wsJxbd7250 : List Cond := u_ws RJxbd725 TJxbd725 0
theorem nmJxbd725 : ∀ a, a < 0 → ∀ b, b < 0 → a ≠ b → (TJxbd725 a).2.1 ≠ (TJxbd725 b).2.1 := by decide +kernel
theorem tyJxbd725_ok : ∀ k, k < 0 → parseFieldDescriptor (TJxbd725 k).2.2.1 = some (tyJxbd725 k) := by decide +kernel
def RJ15 : String := "java/util/Objects"
def TJ15 : u_T := fun k => match k with
  | _ => ("", "", "", false)
def tyJ15 : Nat → FieldType := fun k => match k with
  | _ => .int
abbrev wsJ150 : List Cond := u_ws RJ15 TJ15 0
theorem nmJ15 : ∀ a, a < 0 → ∀ b, b < 0 → a ≠ b → (TJ15 a).2.1 ≠ (TJ15 b).2.1 := by decide +kernel
theorem tyJ15_ok : ∀ k, k < 0 → parseFieldDescriptor (TJ15 k).2.2.1 = some (tyJ15 k) := by decide +kernel
abbrev cJ15_checkIndex_7cf53 : ByteArray := prog_39_method_17_code
def yJ15_checkIndex_7cf53 : MethodName := ⟨RJ15, "checkIndex", "(II)I"⟩
def RJxf0a74 : String := "java/util/RandomAccess"
def TJxf0a74 : u_T := fun k => match k with
  | _ => ("", "", "", false)
def tyJxf0a74 : Nat → FieldType := fun k => match k with
  | _ => .int
abbrev wsJxf0a740 : List Cond := u_ws RJxf0a74 TJxf0a74 0
theorem nmJxf0a74 : ∀ a, a < 0 → ∀ b, b < 0 → a ≠ b → (TJxf0a74 a).2.1 ≠ (TJxf0a74 b).2.1 := by decide +kernel
theorem tyJxf0a74_ok : ∀ k, k < 0 → parseFieldDescriptor (TJxf0a74 k).2.2.1 = some (tyJxf0a74 k) := by decide +kernel
def RJxa66e6 : String := "java/util/SequencedCollection"
def TJxa66e6 : u_T := fun k => match k with
  | _ => ("", "", "", false)
def tyJxa66e6 : Nat → FieldType := fun k => match k with
  | _ => .int
abbrev wsJxa66e60 : List Cond := u_ws RJxa66e6 TJxa66e6 0
theorem nmJxa66e6 : ∀ a, a < 0 → ∀ b, b < 0 → a ≠ b → (TJxa66e6 a).2.1 ≠ (TJxa66e6 b).2.1 := by decide +kernel
theorem tyJxa66e6_ok : ∀ k, k < 0 → parseFieldDescriptor (TJxa66e6 k).2.2.1 = some (tyJxa66e6 k) := by decide +kernel
def RJ8 : String := "jdk/internal/util/ArraysSupport"
def TJ8 : u_T := fun k => match k with
  | _ => ("", "", "", false)
def tyJ8 : Nat → FieldType := fun k => match k with
  | _ => .int
abbrev wsJ80 : List Cond := u_ws RJ8 TJ8 0
theorem nmJ8 : ∀ a, a < 0 → ∀ b, b < 0 → a ≠ b → (TJ8 a).2.1 ≠ (TJ8 b).2.1 := by decide +kernel
theorem tyJ8_ok : ∀ k, k < 0 → parseFieldDescriptor (TJ8 k).2.2.1 = some (tyJ8 k) := by decide +kernel
abbrev cJ8_newLength_cabcc : ByteArray := prog_42_method_27_code
def yJ8_newLength_cabcc : MethodName := ⟨RJ8, "newLength", "(III)I"⟩
abbrev cJ8_hugeLength_7cf53 : ByteArray := prog_42_method_28_code
def yJ8_hugeLength_7cf53 : MethodName := ⟨RJ8, "hugeLength", "(II)I"⟩
def RJ3 : String := "jdk/internal/util/Preconditions"
def TJ3 : u_T := fun k => match k with
  | _ => ("", "", "", false)
def tyJ3 : Nat → FieldType := fun k => match k with
  | _ => .int
abbrev wsJ30 : List Cond := u_ws RJ3 TJ3 0
theorem nmJ3 : ∀ a, a < 0 → ∀ b, b < 0 → a ≠ b → (TJ3 a).2.1 ≠ (TJ3 b).2.1 := by decide +kernel
theorem tyJ3_ok : ∀ k, k < 0 → parseFieldDescriptor (TJ3 k).2.2.1 = some (tyJ3 k) := by decide +kernel
abbrev cJ3_checkIndex_8e157 : ByteArray := prog_43_method_11_code
def yJ3_checkIndex_8e157 : MethodName := ⟨RJ3, "checkIndex", "(IILjava/util/function/BiFunction;)I"⟩
def RL : String := "RemotepaneLaw"
abbrev cL_cell : ByteArray := method_2_code
def yL_cell : MethodName := ⟨RL, "cell", "([II)I"⟩
abbrev cL_some : ByteArray := method_3_code
def yL_some : MethodName := ⟨RL, "some", "([III)I"⟩
abbrev cL_openSession : ByteArray := method_4_code
def yL_openSession : MethodName := ⟨RL, "openSession", "(LRemotepane;)I"⟩
abbrev cL_openWindow : ByteArray := method_5_code
def yL_openWindow : MethodName := ⟨RL, "openWindow", "(LRemotepane;IIIII)I"⟩
abbrev cL_moveWindow : ByteArray := method_6_code
def yL_moveWindow : MethodName := ⟨RL, "moveWindow", "(LRemotepane;IIII)I"⟩
abbrev cL_draw : ByteArray := method_7_code
def yL_draw : MethodName := ⟨RL, "draw", "(LRemotepane;IIIIIII)I"⟩
abbrev cL_screen : ByteArray := method_8_code
def yL_screen : MethodName := ⟨RL, "screen", "(LRemotepane;III)I"⟩
abbrev cL_join : ByteArray := method_9_code
def yL_join : MethodName := ⟨RL, "join", "(LRemotepane;II)I"⟩
abbrev cL_bid : ByteArray := method_10_code
def yL_bid : MethodName := ⟨RL, "bid", "(LRemotepane;II)I"⟩
abbrev cL_money : ByteArray := method_11_code
def yL_money : MethodName := ⟨RL, "money", "(LRemotepane;I)I"⟩
abbrev cL_picture : ByteArray := method_12_code
def yL_picture : MethodName := ⟨RL, "picture", "(LRemotepane;III)I"⟩
abbrev cL_seen : ByteArray := method_13_code
def yL_seen : MethodName := ⟨RL, "seen", "(LRemotepane;III)I"⟩
abbrev cL_behind : ByteArray := method_14_code
def yL_behind : MethodName := ⟨RL, "behind", "(LRemotepane;I)I"⟩
abbrev cL_next : ByteArray := method_15_code
def yL_next : MethodName := ⟨RL, "next", "(LRemotepane;I)I"⟩
abbrev cL_nextCost : ByteArray := method_16_code
def yL_nextCost : MethodName := ⟨RL, "nextCost", "(LRemotepane;I)I"⟩
abbrev cL_tick : ByteArray := method_17_code
def yL_tick : MethodName := ⟨RL, "tick", "(LRemotepane;I)I"⟩
abbrev cL_type : ByteArray := method_18_code
def yL_type : MethodName := ⟨RL, "type", "(LRemotepane;IC)I"⟩
abbrev cL_guesses : ByteArray := method_19_code
def yL_guesses : MethodName := ⟨RL, "guesses", "(LRemotepane;I)I"⟩
abbrev cL_copy : ByteArray := method_20_code
def yL_copy : MethodName := ⟨RL, "copy", "(LRemotepane;III)I"⟩
abbrev cL_paste : ByteArray := method_21_code
def yL_paste : MethodName := ⟨RL, "paste", "(LRemotepane;II)I"⟩
abbrev cL_left : ByteArray := method_22_code
def yL_left : MethodName := ⟨RL, "left", "(LRemotepane;I)I"⟩
abbrev cL_host : ByteArray := method_23_code
def yL_host : MethodName := ⟨RL, "host", "(LRemotepane;I)I"⟩
abbrev cL_record : ByteArray := method_24_code
def yL_record : MethodName := ⟨RL, "record", "(LRemotepane;I)I"⟩
abbrev cL_played : ByteArray := method_25_code
def yL_played : MethodName := ⟨RL, "played", "(LRemotepane;IIII)I"⟩
abbrev cL_noted : ByteArray := method_26_code
def yL_noted : MethodName := ⟨RL, "noted", "(LRemotepane;I)I"⟩
abbrev cL_is : ByteArray := method_27_code
def yL_is : MethodName := ⟨RL, "is", "(LRemotepane;CIIIZ)I"⟩
abbrev cL_told : ByteArray := method_28_code
def yL_told : MethodName := ⟨RL, "told", "(LRemotepane;II)Z"⟩
abbrev cL_law : ByteArray := code
def yL_law : MethodName := ⟨RL, "law", "([I)Z"⟩
end
section
theorem dX0_init_0 : decode cX0_init 0 = .ok (.aload_n 0, 1) := by decide +kernel
theorem dX0_init_1 : decode cX0_init 1 = .ok (.invokespecial 3, 3) := by decide +kernel
theorem dX0_init_4 : decode cX0_init 4 = .ok (.aload_n 0, 1) := by decide +kernel
theorem dX0_init_5 : decode cX0_init 5 = .ok (.aload_n 1, 1) := by decide +kernel
theorem dX0_init_6 : decode cX0_init 6 = .ok (.putfield 9, 3) := by decide +kernel
theorem dX0_init_9 : decode cX0_init 9 = .ok (.aload_n 0, 1) := by decide +kernel
theorem dX0_init_10 : decode cX0_init 10 = .ok (.bipush 96, 2) := by decide +kernel
theorem dX0_init_12 : decode cX0_init 12 = .ok (.newarray .int, 2) := by decide +kernel
theorem dX0_init_14 : decode cX0_init 14 = .ok (.putfield 15, 3) := by decide +kernel
theorem dX0_init_17 : decode cX0_init 17 = .ok (.aload_n 0, 1) := by decide +kernel
theorem dX0_init_18 : decode cX0_init 18 = .ok (.bipush 96, 2) := by decide +kernel
theorem dX0_init_20 : decode cX0_init 20 = .ok (.newarray .int, 2) := by decide +kernel
theorem dX0_init_22 : decode cX0_init 22 = .ok (.putfield 18, 3) := by decide +kernel
theorem dX0_init_25 : decode cX0_init 25 = .ok (.aload_n 0, 1) := by decide +kernel
theorem dX0_init_26 : decode cX0_init 26 = .ok (.bipush 9, 2) := by decide +kernel
theorem dX0_init_28 : decode cX0_init 28 = .ok (.newarray .int, 2) := by decide +kernel
theorem dX0_init_30 : decode cX0_init 30 = .ok (.putfield 21, 3) := by decide +kernel
theorem dX0_init_33 : decode cX0_init 33 = .ok (.aload_n 0, 1) := by decide +kernel
theorem dX0_init_34 : decode cX0_init 34 = .ok (.bipush 32, 2) := by decide +kernel
theorem dX0_init_36 : decode cX0_init 36 = .ok (.putfield 24, 3) := by decide +kernel
theorem dX0_init_39 : decode cX0_init 39 = .ok (.return_, 1) := by decide +kernel
theorem dX0_find_0 : decode cX0_find 0 = .ok (.aload_n 0, 1) := by decide +kernel
theorem dX0_find_1 : decode cX0_find 1 = .ok (.bipush 32, 2) := by decide +kernel
theorem dX0_find_3 : decode cX0_find 3 = .ok (.putfield 24, 3) := by decide +kernel
theorem dX0_find_6 : decode cX0_find 6 = .ok (.aload_n 0, 1) := by decide +kernel
theorem dX0_find_7 : decode cX0_find 7 = .ok (.iconst 0, 1) := by decide +kernel
theorem dX0_find_8 : decode cX0_find 8 = .ok (.putfield 28, 3) := by decide +kernel
theorem dX0_find_11 : decode cX0_find 11 = .ok (.aload_n 0, 1) := by decide +kernel
theorem dX0_find_12 : decode cX0_find 12 = .ok (.iconst 1, 1) := by decide +kernel
theorem dX0_find_13 : decode cX0_find 13 = .ok (.putfield 32, 3) := by decide +kernel
theorem dX0_find_16 : decode cX0_find 16 = .ok (.aload_n 0, 1) := by decide +kernel
theorem dX0_find_17 : decode cX0_find 17 = .ok (.iconst 0, 1) := by decide +kernel
theorem dX0_find_18 : decode cX0_find 18 = .ok (.putfield 35, 3) := by decide +kernel
theorem dX0_find_21 : decode cX0_find 21 = .ok (.aload_n 0, 1) := by decide +kernel
theorem dX0_find_22 : decode cX0_find 22 = .ok (.getfield 35, 3) := by decide +kernel
theorem dX0_find_25 : decode cX0_find 25 = .ok (.bipush 96, 2) := by decide +kernel
theorem dX0_find_27 : decode cX0_find 27 = .ok (.if_icmp .ge 27, 3) := by decide +kernel
theorem dX0_find_30 : decode cX0_find 30 = .ok (.aload_n 0, 1) := by decide +kernel
theorem dX0_find_31 : decode cX0_find 31 = .ok (.aload_n 0, 1) := by decide +kernel
theorem dX0_find_32 : decode cX0_find 32 = .ok (.getfield 35, 3) := by decide +kernel
theorem dX0_find_35 : decode cX0_find 35 = .ok (.invokevirtual 38, 3) := by decide +kernel
theorem dX0_find_38 : decode cX0_find 38 = .ok (.ifCond .ne 16, 3) := by decide +kernel
theorem dX0_find_41 : decode cX0_find 41 = .ok (.aload_n 0, 1) := by decide +kernel
theorem dX0_find_42 : decode cX0_find 42 = .ok (.dup, 1) := by decide +kernel
theorem dX0_find_43 : decode cX0_find 43 = .ok (.getfield 35, 3) := by decide +kernel
theorem dX0_find_46 : decode cX0_find 46 = .ok (.iconst 1, 1) := by decide +kernel
theorem dX0_find_47 : decode cX0_find 47 = .ok (.iadd, 1) := by decide +kernel
theorem dX0_find_48 : decode cX0_find 48 = .ok (.putfield 35, 3) := by decide +kernel
theorem dX0_find_51 : decode cX0_find 51 = .ok (.goto (-30), 3) := by decide +kernel
theorem dX0_find_54 : decode cX0_find 54 = .ok (.aload_n 0, 1) := by decide +kernel
theorem dX0_find_55 : decode cX0_find 55 = .ok (.getfield 35, 3) := by decide +kernel
theorem dX0_find_58 : decode cX0_find 58 = .ok (.bipush 96, 2) := by decide +kernel
theorem dX0_find_60 : decode cX0_find 60 = .ok (.if_icmp .ge 17, 3) := by decide +kernel
theorem dX0_find_63 : decode cX0_find 63 = .ok (.aload_n 0, 1) := by decide +kernel
theorem dX0_find_64 : decode cX0_find 64 = .ok (.invokevirtual 42, 3) := by decide +kernel
theorem dX0_find_67 : decode cX0_find 67 = .ok (.aload_n 0, 1) := by decide +kernel
theorem dX0_find_68 : decode cX0_find 68 = .ok (.iconst 0, 1) := by decide +kernel
theorem dX0_find_69 : decode cX0_find 69 = .ok (.iconst 0, 1) := by decide +kernel
theorem dX0_find_70 : decode cX0_find 70 = .ok (.invokevirtual 45, 3) := by decide +kernel
theorem dX0_find_73 : decode cX0_find 73 = .ok (.aload_n 0, 1) := by decide +kernel
theorem dX0_find_74 : decode cX0_find 74 = .ok (.invokevirtual 49, 3) := by decide +kernel
theorem dX0_find_77 : decode cX0_find 77 = .ok (.return_, 1) := by decide +kernel
theorem dX0_isBehind_0 : decode cX0_isBehind 0 = .ok (.aload_n 0, 1) := by decide +kernel
theorem dX0_isBehind_1 : decode cX0_isBehind 1 = .ok (.getfield 15, 3) := by decide +kernel
theorem dX0_isBehind_4 : decode cX0_isBehind 4 = .ok (.iload_n 1, 1) := by decide +kernel
theorem dX0_isBehind_5 : decode cX0_isBehind 5 = .ok (.iaload, 1) := by decide +kernel
theorem dX0_isBehind_6 : decode cX0_isBehind 6 = .ok (.aload_n 0, 1) := by decide +kernel
theorem dX0_isBehind_7 : decode cX0_isBehind 7 = .ok (.getfield 9, 3) := by decide +kernel
theorem dX0_isBehind_10 : decode cX0_isBehind 10 = .ok (.iload_n 1, 1) := by decide +kernel
theorem dX0_isBehind_11 : decode cX0_isBehind 11 = .ok (.iaload, 1) := by decide +kernel
theorem dX0_isBehind_12 : decode cX0_isBehind 12 = .ok (.if_icmp .eq 7, 3) := by decide +kernel
theorem dX0_isBehind_15 : decode cX0_isBehind 15 = .ok (.iconst 1, 1) := by decide +kernel
theorem dX0_isBehind_16 : decode cX0_isBehind 16 = .ok (.goto 4, 3) := by decide +kernel
theorem dX0_isBehind_19 : decode cX0_isBehind 19 = .ok (.iconst 0, 1) := by decide +kernel
theorem dX0_isBehind_20 : decode cX0_isBehind 20 = .ok (.ireturn, 1) := by decide +kernel
theorem dX0_tryCopies_0 : decode cX0_tryCopies 0 = .ok (.bipush (-2), 2) := by decide +kernel
theorem dX0_tryCopies_2 : decode cX0_tryCopies 2 = .ok (.istore_n 1, 1) := by decide +kernel
theorem dX0_tryCopies_3 : decode cX0_tryCopies 3 = .ok (.iload_n 1, 1) := by decide +kernel
theorem dX0_tryCopies_4 : decode cX0_tryCopies 4 = .ok (.iconst 2, 1) := by decide +kernel
theorem dX0_tryCopies_5 : decode cX0_tryCopies 5 = .ok (.if_icmp .gt 37, 3) := by decide +kernel
theorem dX0_tryCopies_8 : decode cX0_tryCopies 8 = .ok (.bipush (-2), 2) := by decide +kernel
theorem dX0_tryCopies_10 : decode cX0_tryCopies 10 = .ok (.istore_n 2, 1) := by decide +kernel
theorem dX0_tryCopies_11 : decode cX0_tryCopies 11 = .ok (.iload_n 2, 1) := by decide +kernel
theorem dX0_tryCopies_12 : decode cX0_tryCopies 12 = .ok (.iconst 2, 1) := by decide +kernel
theorem dX0_tryCopies_13 : decode cX0_tryCopies 13 = .ok (.if_icmp .gt 23, 3) := by decide +kernel
theorem dX0_tryCopies_16 : decode cX0_tryCopies 16 = .ok (.iload_n 1, 1) := by decide +kernel
theorem dX0_tryCopies_17 : decode cX0_tryCopies 17 = .ok (.ifCond .ne 7, 3) := by decide +kernel
theorem dX0_tryCopies_20 : decode cX0_tryCopies 20 = .ok (.iload_n 2, 1) := by decide +kernel
theorem dX0_tryCopies_21 : decode cX0_tryCopies 21 = .ok (.ifCond .eq 9, 3) := by decide +kernel
theorem dX0_tryCopies_24 : decode cX0_tryCopies 24 = .ok (.aload_n 0, 1) := by decide +kernel
theorem dX0_tryCopies_25 : decode cX0_tryCopies 25 = .ok (.iload_n 1, 1) := by decide +kernel
theorem dX0_tryCopies_26 : decode cX0_tryCopies 26 = .ok (.iload_n 2, 1) := by decide +kernel
theorem dX0_tryCopies_27 : decode cX0_tryCopies 27 = .ok (.invokevirtual 45, 3) := by decide +kernel
theorem dX0_tryCopies_30 : decode cX0_tryCopies 30 = .ok (.iinc 2 1, 3) := by decide +kernel
theorem dX0_tryCopies_33 : decode cX0_tryCopies 33 = .ok (.goto (-22), 3) := by decide +kernel
theorem dX0_tryCopies_36 : decode cX0_tryCopies 36 = .ok (.iinc 1 1, 3) := by decide +kernel
theorem dX0_tryCopies_39 : decode cX0_tryCopies 39 = .ok (.goto (-36), 3) := by decide +kernel
theorem dX0_tryCopies_42 : decode cX0_tryCopies 42 = .ok (.return_, 1) := by decide +kernel
theorem dX0_tryRectangles_0 : decode cX0_tryRectangles 0 = .ok (.aload_n 0, 1) := by decide +kernel
theorem dX0_tryRectangles_1 : decode cX0_tryRectangles 1 = .ok (.getfield 35, 3) := by decide +kernel
theorem dX0_tryRectangles_4 : decode cX0_tryRectangles 4 = .ok (.bipush 12, 2) := by decide +kernel
theorem dX0_tryRectangles_6 : decode cX0_tryRectangles 6 = .ok (.irem, 1) := by decide +kernel
theorem dX0_tryRectangles_7 : decode cX0_tryRectangles 7 = .ok (.istore_n 3, 1) := by decide +kernel
theorem dX0_tryRectangles_8 : decode cX0_tryRectangles 8 = .ok (.aload_n 0, 1) := by decide +kernel
theorem dX0_tryRectangles_9 : decode cX0_tryRectangles 9 = .ok (.getfield 35, 3) := by decide +kernel
theorem dX0_tryRectangles_12 : decode cX0_tryRectangles 12 = .ok (.bipush 12, 2) := by decide +kernel
theorem dX0_tryRectangles_14 : decode cX0_tryRectangles 14 = .ok (.idiv, 1) := by decide +kernel
theorem dX0_tryRectangles_15 : decode cX0_tryRectangles 15 = .ok (.istore 4, 2) := by decide +kernel
theorem dX0_tryRectangles_17 : decode cX0_tryRectangles 17 = .ok (.iload 4, 2) := by decide +kernel
theorem dX0_tryRectangles_19 : decode cX0_tryRectangles 19 = .ok (.iload_n 1, 1) := by decide +kernel
theorem dX0_tryRectangles_20 : decode cX0_tryRectangles 20 = .ok (.iadd, 1) := by decide +kernel
theorem dX0_tryRectangles_21 : decode cX0_tryRectangles 21 = .ok (.ifCond .lt 9, 3) := by decide +kernel
theorem dX0_tryRectangles_24 : decode cX0_tryRectangles 24 = .ok (.iload_n 3, 1) := by decide +kernel
theorem dX0_tryRectangles_25 : decode cX0_tryRectangles 25 = .ok (.iload_n 2, 1) := by decide +kernel
theorem dX0_tryRectangles_26 : decode cX0_tryRectangles 26 = .ok (.iadd, 1) := by decide +kernel
theorem dX0_tryRectangles_27 : decode cX0_tryRectangles 27 = .ok (.ifCond .ge 4, 3) := by decide +kernel
theorem dX0_tryRectangles_30 : decode cX0_tryRectangles 30 = .ok (.return_, 1) := by decide +kernel
theorem dX0_tryRectangles_31 : decode cX0_tryRectangles 31 = .ok (.iload_n 1, 1) := by decide +kernel
theorem dX0_tryRectangles_32 : decode cX0_tryRectangles 32 = .ok (.bipush 12, 2) := by decide +kernel
theorem dX0_tryRectangles_34 : decode cX0_tryRectangles 34 = .ok (.imul, 1) := by decide +kernel
theorem dX0_tryRectangles_35 : decode cX0_tryRectangles 35 = .ok (.iload_n 2, 1) := by decide +kernel
theorem dX0_tryRectangles_36 : decode cX0_tryRectangles 36 = .ok (.iadd, 1) := by decide +kernel
theorem dX0_tryRectangles_37 : decode cX0_tryRectangles 37 = .ok (.istore 5, 2) := by decide +kernel
theorem dX0_tryRectangles_39 : decode cX0_tryRectangles 39 = .ok (.bipush 12, 2) := by decide +kernel
theorem dX0_tryRectangles_41 : decode cX0_tryRectangles 41 = .ok (.iload_n 3, 1) := by decide +kernel
theorem dX0_tryRectangles_42 : decode cX0_tryRectangles 42 = .ok (.iload_n 3, 1) := by decide +kernel
theorem dX0_tryRectangles_43 : decode cX0_tryRectangles 43 = .ok (.iload_n 2, 1) := by decide +kernel
theorem dX0_tryRectangles_44 : decode cX0_tryRectangles 44 = .ok (.iadd, 1) := by decide +kernel
theorem dX0_tryRectangles_45 : decode cX0_tryRectangles 45 = .ok (.invokestatic 52, 3) := by decide +kernel
theorem dX0_tryRectangles_48 : decode cX0_tryRectangles 48 = .ok (.isub, 1) := by decide +kernel
theorem dX0_tryRectangles_49 : decode cX0_tryRectangles 49 = .ok (.istore 6, 2) := by decide +kernel
theorem dX0_tryRectangles_51 : decode cX0_tryRectangles 51 = .ok (.bipush 8, 2) := by decide +kernel
theorem dX0_tryRectangles_53 : decode cX0_tryRectangles 53 = .ok (.iload 4, 2) := by decide +kernel
theorem dX0_tryRectangles_55 : decode cX0_tryRectangles 55 = .ok (.iload 4, 2) := by decide +kernel
theorem dX0_tryRectangles_57 : decode cX0_tryRectangles 57 = .ok (.iload_n 1, 1) := by decide +kernel
theorem dX0_tryRectangles_58 : decode cX0_tryRectangles 58 = .ok (.iadd, 1) := by decide +kernel
theorem dX0_tryRectangles_59 : decode cX0_tryRectangles 59 = .ok (.invokestatic 52, 3) := by decide +kernel
theorem dX0_tryRectangles_62 : decode cX0_tryRectangles 62 = .ok (.isub, 1) := by decide +kernel
theorem dX0_tryRectangles_63 : decode cX0_tryRectangles 63 = .ok (.istore 7, 2) := by decide +kernel
theorem dX0_tryRectangles_65 : decode cX0_tryRectangles 65 = .ok (.iload 5, 2) := by decide +kernel
theorem dX0_tryRectangles_67 : decode cX0_tryRectangles 67 = .ok (.ifCond .eq 20, 3) := by decide +kernel
theorem dX0_tryRectangles_70 : decode cX0_tryRectangles 70 = .ok (.iload 6, 2) := by decide +kernel
theorem dX0_tryRectangles_72 : decode cX0_tryRectangles 72 = .ok (.bipush 6, 2) := by decide +kernel
theorem dX0_tryRectangles_74 : decode cX0_tryRectangles 74 = .ok (.invokestatic 58, 3) := by decide +kernel
theorem dX0_tryRectangles_77 : decode cX0_tryRectangles 77 = .ok (.istore 6, 2) := by decide +kernel
theorem dX0_tryRectangles_79 : decode cX0_tryRectangles 79 = .ok (.iload 7, 2) := by decide +kernel
theorem dX0_tryRectangles_81 : decode cX0_tryRectangles 81 = .ok (.iconst 4, 1) := by decide +kernel
theorem dX0_tryRectangles_82 : decode cX0_tryRectangles 82 = .ok (.invokestatic 58, 3) := by decide +kernel
theorem dX0_tryRectangles_85 : decode cX0_tryRectangles 85 = .ok (.istore 7, 2) := by decide +kernel
theorem dX0_tryRectangles_87 : decode cX0_tryRectangles 87 = .ok (.aload_n 0, 1) := by decide +kernel
theorem dX0_tryRectangles_88 : decode cX0_tryRectangles 88 = .ok (.getfield 21, 3) := by decide +kernel
theorem dX0_tryRectangles_91 : decode cX0_tryRectangles 91 = .ok (.iconst 0, 1) := by decide +kernel
theorem dX0_tryRectangles_92 : decode cX0_tryRectangles 92 = .ok (.invokestatic 61, 3) := by decide +kernel
theorem dX0_tryRectangles_95 : decode cX0_tryRectangles 95 = .ok (.iconst 1, 1) := by decide +kernel
theorem dX0_tryRectangles_96 : decode cX0_tryRectangles 96 = .ok (.istore 8, 2) := by decide +kernel
theorem dX0_tryRectangles_98 : decode cX0_tryRectangles 98 = .ok (.iload 8, 2) := by decide +kernel
theorem dX0_tryRectangles_100 : decode cX0_tryRectangles 100 = .ok (.iload 6, 2) := by decide +kernel
theorem dX0_tryRectangles_102 : decode cX0_tryRectangles 102 = .ok (.if_icmp .gt 156, 3) := by decide +kernel
theorem dX0_tryRectangles_105 : decode cX0_tryRectangles 105 = .ok (.iconst 0, 1) := by decide +kernel
theorem dX0_tryRectangles_106 : decode cX0_tryRectangles 106 = .ok (.istore 9, 2) := by decide +kernel
theorem dX0_tryRectangles_108 : decode cX0_tryRectangles 108 = .ok (.iconst 1, 1) := by decide +kernel
theorem dX0_tryRectangles_109 : decode cX0_tryRectangles 109 = .ok (.istore 10, 2) := by decide +kernel
theorem dX0_tryRectangles_111 : decode cX0_tryRectangles 111 = .ok (.iload 10, 2) := by decide +kernel
theorem dX0_tryRectangles_113 : decode cX0_tryRectangles 113 = .ok (.iload 7, 2) := by decide +kernel
theorem dX0_tryRectangles_115 : decode cX0_tryRectangles 115 = .ok (.if_icmp .gt 137, 3) := by decide +kernel
theorem dX0_tryRectangles_118 : decode cX0_tryRectangles 118 = .ok (.aload_n 0, 1) := by decide +kernel
theorem dX0_tryRectangles_119 : decode cX0_tryRectangles 119 = .ok (.getfield 35, 3) := by decide +kernel
theorem dX0_tryRectangles_122 : decode cX0_tryRectangles 122 = .ok (.iload 10, 2) := by decide +kernel
theorem dX0_tryRectangles_124 : decode cX0_tryRectangles 124 = .ok (.iconst 1, 1) := by decide +kernel
theorem dX0_tryRectangles_125 : decode cX0_tryRectangles 125 = .ok (.isub, 1) := by decide +kernel
theorem dX0_tryRectangles_126 : decode cX0_tryRectangles 126 = .ok (.bipush 12, 2) := by decide +kernel
theorem dX0_tryRectangles_128 : decode cX0_tryRectangles 128 = .ok (.imul, 1) := by decide +kernel
theorem dX0_tryRectangles_129 : decode cX0_tryRectangles 129 = .ok (.iadd, 1) := by decide +kernel
theorem dX0_tryRectangles_130 : decode cX0_tryRectangles 130 = .ok (.iload 8, 2) := by decide +kernel
theorem dX0_tryRectangles_132 : decode cX0_tryRectangles 132 = .ok (.iadd, 1) := by decide +kernel
theorem dX0_tryRectangles_133 : decode cX0_tryRectangles 133 = .ok (.iconst 1, 1) := by decide +kernel
theorem dX0_tryRectangles_134 : decode cX0_tryRectangles 134 = .ok (.isub, 1) := by decide +kernel
theorem dX0_tryRectangles_135 : decode cX0_tryRectangles 135 = .ok (.istore 11, 2) := by decide +kernel
theorem dX0_tryRectangles_137 : decode cX0_tryRectangles 137 = .ok (.iload 5, 2) := by decide +kernel
theorem dX0_tryRectangles_139 : decode cX0_tryRectangles 139 = .ok (.ifCond .ne 15, 3) := by decide +kernel
theorem dX0_tryRectangles_142 : decode cX0_tryRectangles 142 = .ok (.aload_n 0, 1) := by decide +kernel
theorem dX0_tryRectangles_143 : decode cX0_tryRectangles 143 = .ok (.getfield 9, 3) := by decide +kernel
theorem dX0_tryRectangles_146 : decode cX0_tryRectangles 146 = .ok (.aload_n 0, 1) := by decide +kernel
theorem dX0_tryRectangles_147 : decode cX0_tryRectangles 147 = .ok (.getfield 35, 3) := by decide +kernel
theorem dX0_tryRectangles_150 : decode cX0_tryRectangles 150 = .ok (.iaload, 1) := by decide +kernel
theorem dX0_tryRectangles_151 : decode cX0_tryRectangles 151 = .ok (.goto 13, 3) := by decide +kernel
theorem dX0_tryRectangles_154 : decode cX0_tryRectangles 154 = .ok (.aload_n 0, 1) := by decide +kernel
theorem dX0_tryRectangles_155 : decode cX0_tryRectangles 155 = .ok (.getfield 15, 3) := by decide +kernel
theorem dX0_tryRectangles_158 : decode cX0_tryRectangles 158 = .ok (.iload 11, 2) := by decide +kernel
theorem dX0_tryRectangles_160 : decode cX0_tryRectangles 160 = .ok (.iload 5, 2) := by decide +kernel
theorem dX0_tryRectangles_162 : decode cX0_tryRectangles 162 = .ok (.iadd, 1) := by decide +kernel
theorem dX0_tryRectangles_163 : decode cX0_tryRectangles 163 = .ok (.iaload, 1) := by decide +kernel
theorem dX0_tryRectangles_164 : decode cX0_tryRectangles 164 = .ok (.istore 12, 2) := by decide +kernel
theorem dX0_tryRectangles_166 : decode cX0_tryRectangles 166 = .ok (.iload 9, 2) := by decide +kernel
theorem dX0_tryRectangles_168 : decode cX0_tryRectangles 168 = .ok (.aload_n 0, 1) := by decide +kernel
theorem dX0_tryRectangles_169 : decode cX0_tryRectangles 169 = .ok (.iload 11, 2) := by decide +kernel
theorem dX0_tryRectangles_171 : decode cX0_tryRectangles 171 = .ok (.iload 12, 2) := by decide +kernel
theorem dX0_tryRectangles_173 : decode cX0_tryRectangles 173 = .ok (.invokevirtual 67, 3) := by decide +kernel
theorem dX0_tryRectangles_176 : decode cX0_tryRectangles 176 = .ok (.iadd, 1) := by decide +kernel
theorem dX0_tryRectangles_177 : decode cX0_tryRectangles 177 = .ok (.istore 9, 2) := by decide +kernel
theorem dX0_tryRectangles_179 : decode cX0_tryRectangles 179 = .ok (.aload_n 0, 1) := by decide +kernel
theorem dX0_tryRectangles_180 : decode cX0_tryRectangles 180 = .ok (.getfield 21, 3) := by decide +kernel
theorem dX0_tryRectangles_183 : decode cX0_tryRectangles 183 = .ok (.iload 10, 2) := by decide +kernel
theorem dX0_tryRectangles_185 : decode cX0_tryRectangles 185 = .ok (.dup2, 1) := by decide +kernel
theorem dX0_tryRectangles_186 : decode cX0_tryRectangles 186 = .ok (.iaload, 1) := by decide +kernel
theorem dX0_tryRectangles_187 : decode cX0_tryRectangles 187 = .ok (.iload 9, 2) := by decide +kernel
theorem dX0_tryRectangles_189 : decode cX0_tryRectangles 189 = .ok (.iadd, 1) := by decide +kernel
theorem dX0_tryRectangles_190 : decode cX0_tryRectangles 190 = .ok (.iastore, 1) := by decide +kernel
theorem dX0_tryRectangles_191 : decode cX0_tryRectangles 191 = .ok (.iload 5, 2) := by decide +kernel
theorem dX0_tryRectangles_193 : decode cX0_tryRectangles 193 = .ok (.ifCond .ne 26, 3) := by decide +kernel
theorem dX0_tryRectangles_196 : decode cX0_tryRectangles 196 = .ok (.aload_n 0, 1) := by decide +kernel
theorem dX0_tryRectangles_197 : decode cX0_tryRectangles 197 = .ok (.bipush 102, 2) := by decide +kernel
theorem dX0_tryRectangles_199 : decode cX0_tryRectangles 199 = .ok (.aload_n 0, 1) := by decide +kernel
theorem dX0_tryRectangles_200 : decode cX0_tryRectangles 200 = .ok (.getfield 21, 3) := by decide +kernel
theorem dX0_tryRectangles_203 : decode cX0_tryRectangles 203 = .ok (.iload 10, 2) := by decide +kernel
theorem dX0_tryRectangles_205 : decode cX0_tryRectangles 205 = .ok (.iaload, 1) := by decide +kernel
theorem dX0_tryRectangles_206 : decode cX0_tryRectangles 206 = .ok (.iconst 5, 1) := by decide +kernel
theorem dX0_tryRectangles_207 : decode cX0_tryRectangles 207 = .ok (.iload 5, 2) := by decide +kernel
theorem dX0_tryRectangles_209 : decode cX0_tryRectangles 209 = .ok (.iload 8, 2) := by decide +kernel
theorem dX0_tryRectangles_211 : decode cX0_tryRectangles 211 = .ok (.iload 10, 2) := by decide +kernel
theorem dX0_tryRectangles_213 : decode cX0_tryRectangles 213 = .ok (.invokevirtual 70, 3) := by decide +kernel
theorem dX0_tryRectangles_216 : decode cX0_tryRectangles 216 = .ok (.goto 30, 3) := by decide +kernel
theorem dX0_tryRectangles_219 : decode cX0_tryRectangles 219 = .ok (.iload 8, 2) := by decide +kernel
theorem dX0_tryRectangles_221 : decode cX0_tryRectangles 221 = .ok (.iconst 1, 1) := by decide +kernel
theorem dX0_tryRectangles_222 : decode cX0_tryRectangles 222 = .ok (.if_icmp .le 24, 3) := by decide +kernel
theorem dX0_tryRectangles_225 : decode cX0_tryRectangles 225 = .ok (.aload_n 0, 1) := by decide +kernel
theorem dX0_tryRectangles_226 : decode cX0_tryRectangles 226 = .ok (.bipush 99, 2) := by decide +kernel
theorem dX0_tryRectangles_228 : decode cX0_tryRectangles 228 = .ok (.aload_n 0, 1) := by decide +kernel
theorem dX0_tryRectangles_229 : decode cX0_tryRectangles 229 = .ok (.getfield 21, 3) := by decide +kernel
theorem dX0_tryRectangles_232 : decode cX0_tryRectangles 232 = .ok (.iload 10, 2) := by decide +kernel
theorem dX0_tryRectangles_234 : decode cX0_tryRectangles 234 = .ok (.iaload, 1) := by decide +kernel
theorem dX0_tryRectangles_235 : decode cX0_tryRectangles 235 = .ok (.bipush 6, 2) := by decide +kernel
theorem dX0_tryRectangles_237 : decode cX0_tryRectangles 237 = .ok (.iload 5, 2) := by decide +kernel
theorem dX0_tryRectangles_239 : decode cX0_tryRectangles 239 = .ok (.iload 8, 2) := by decide +kernel
theorem dX0_tryRectangles_241 : decode cX0_tryRectangles 241 = .ok (.iload 10, 2) := by decide +kernel
theorem dX0_tryRectangles_243 : decode cX0_tryRectangles 243 = .ok (.invokevirtual 70, 3) := by decide +kernel
theorem dX0_tryRectangles_246 : decode cX0_tryRectangles 246 = .ok (.iinc 10 1, 3) := by decide +kernel
theorem dX0_tryRectangles_249 : decode cX0_tryRectangles 249 = .ok (.goto (-138), 3) := by decide +kernel
theorem dX0_tryRectangles_252 : decode cX0_tryRectangles 252 = .ok (.iinc 8 1, 3) := by decide +kernel
theorem dX0_tryRectangles_255 : decode cX0_tryRectangles 255 = .ok (.goto (-157), 3) := by decide +kernel
theorem dX0_tryRectangles_258 : decode cX0_tryRectangles 258 = .ok (.return_, 1) := by decide +kernel
theorem dX0_tryCells_0 : decode cX0_tryCells 0 = .ok (.bipush 12, 2) := by decide +kernel
theorem dX0_tryCells_2 : decode cX0_tryCells 2 = .ok (.aload_n 0, 1) := by decide +kernel
theorem dX0_tryCells_3 : decode cX0_tryCells 3 = .ok (.getfield 35, 3) := by decide +kernel
theorem dX0_tryCells_6 : decode cX0_tryCells 6 = .ok (.bipush 12, 2) := by decide +kernel
theorem dX0_tryCells_8 : decode cX0_tryCells 8 = .ok (.irem, 1) := by decide +kernel
theorem dX0_tryCells_9 : decode cX0_tryCells 9 = .ok (.isub, 1) := by decide +kernel
theorem dX0_tryCells_10 : decode cX0_tryCells 10 = .ok (.istore_n 1, 1) := by decide +kernel
theorem dX0_tryCells_11 : decode cX0_tryCells 11 = .ok (.iconst 0, 1) := by decide +kernel
theorem dX0_tryCells_12 : decode cX0_tryCells 12 = .ok (.istore_n 2, 1) := by decide +kernel
theorem dX0_tryCells_13 : decode cX0_tryCells 13 = .ok (.iload_n 2, 1) := by decide +kernel
theorem dX0_tryCells_14 : decode cX0_tryCells 14 = .ok (.iload_n 1, 1) := by decide +kernel
theorem dX0_tryCells_15 : decode cX0_tryCells 15 = .ok (.if_icmp .ge 22, 3) := by decide +kernel
theorem dX0_tryCells_18 : decode cX0_tryCells 18 = .ok (.aload_n 0, 1) := by decide +kernel
theorem dX0_tryCells_19 : decode cX0_tryCells 19 = .ok (.aload_n 0, 1) := by decide +kernel
theorem dX0_tryCells_20 : decode cX0_tryCells 20 = .ok (.getfield 35, 3) := by decide +kernel
theorem dX0_tryCells_23 : decode cX0_tryCells 23 = .ok (.iload_n 2, 1) := by decide +kernel
theorem dX0_tryCells_24 : decode cX0_tryCells 24 = .ok (.iadd, 1) := by decide +kernel
theorem dX0_tryCells_25 : decode cX0_tryCells 25 = .ok (.invokevirtual 38, 3) := by decide +kernel
theorem dX0_tryCells_28 : decode cX0_tryCells 28 = .ok (.ifCond .eq 9, 3) := by decide +kernel
theorem dX0_tryCells_31 : decode cX0_tryCells 31 = .ok (.iinc 2 1, 3) := by decide +kernel
theorem dX0_tryCells_34 : decode cX0_tryCells 34 = .ok (.goto (-21), 3) := by decide +kernel
theorem dX0_tryCells_37 : decode cX0_tryCells 37 = .ok (.aload_n 0, 1) := by decide +kernel
theorem dX0_tryCells_38 : decode cX0_tryCells 38 = .ok (.bipush 114, 2) := by decide +kernel
theorem dX0_tryCells_40 : decode cX0_tryCells 40 = .ok (.iload_n 2, 1) := by decide +kernel
theorem dX0_tryCells_41 : decode cX0_tryCells 41 = .ok (.iconst 2, 1) := by decide +kernel
theorem dX0_tryCells_42 : decode cX0_tryCells 42 = .ok (.iload_n 2, 1) := by decide +kernel
theorem dX0_tryCells_43 : decode cX0_tryCells 43 = .ok (.iadd, 1) := by decide +kernel
theorem dX0_tryCells_44 : decode cX0_tryCells 44 = .ok (.iconst 0, 1) := by decide +kernel
theorem dX0_tryCells_45 : decode cX0_tryCells 45 = .ok (.iload_n 2, 1) := by decide +kernel
theorem dX0_tryCells_46 : decode cX0_tryCells 46 = .ok (.iconst 1, 1) := by decide +kernel
theorem dX0_tryCells_47 : decode cX0_tryCells 47 = .ok (.invokevirtual 70, 3) := by decide +kernel
theorem dX0_tryCells_50 : decode cX0_tryCells 50 = .ok (.return_, 1) := by decide +kernel
theorem dX0_gainOf_0 : decode cX0_gainOf 0 = .ok (.aload_n 0, 1) := by decide +kernel
theorem dX0_gainOf_1 : decode cX0_gainOf 1 = .ok (.getfield 15, 3) := by decide +kernel
theorem dX0_gainOf_4 : decode cX0_gainOf 4 = .ok (.iload_n 1, 1) := by decide +kernel
theorem dX0_gainOf_5 : decode cX0_gainOf 5 = .ok (.iaload, 1) := by decide +kernel
theorem dX0_gainOf_6 : decode cX0_gainOf 6 = .ok (.aload_n 0, 1) := by decide +kernel
theorem dX0_gainOf_7 : decode cX0_gainOf 7 = .ok (.getfield 9, 3) := by decide +kernel
theorem dX0_gainOf_10 : decode cX0_gainOf 10 = .ok (.iload_n 1, 1) := by decide +kernel
theorem dX0_gainOf_11 : decode cX0_gainOf 11 = .ok (.iaload, 1) := by decide +kernel
theorem dX0_gainOf_12 : decode cX0_gainOf 12 = .ok (.if_icmp .ne 7, 3) := by decide +kernel
theorem dX0_gainOf_15 : decode cX0_gainOf 15 = .ok (.iconst 1, 1) := by decide +kernel
theorem dX0_gainOf_16 : decode cX0_gainOf 16 = .ok (.goto 4, 3) := by decide +kernel
theorem dX0_gainOf_19 : decode cX0_gainOf 19 = .ok (.iconst 0, 1) := by decide +kernel
theorem dX0_gainOf_20 : decode cX0_gainOf 20 = .ok (.istore_n 3, 1) := by decide +kernel
theorem dX0_gainOf_21 : decode cX0_gainOf 21 = .ok (.iload_n 2, 1) := by decide +kernel
theorem dX0_gainOf_22 : decode cX0_gainOf 22 = .ok (.aload_n 0, 1) := by decide +kernel
theorem dX0_gainOf_23 : decode cX0_gainOf 23 = .ok (.getfield 9, 3) := by decide +kernel
theorem dX0_gainOf_26 : decode cX0_gainOf 26 = .ok (.iload_n 1, 1) := by decide +kernel
theorem dX0_gainOf_27 : decode cX0_gainOf 27 = .ok (.iaload, 1) := by decide +kernel
theorem dX0_gainOf_28 : decode cX0_gainOf 28 = .ok (.if_icmp .ne 7, 3) := by decide +kernel
theorem dX0_gainOf_31 : decode cX0_gainOf 31 = .ok (.iconst 1, 1) := by decide +kernel
theorem dX0_gainOf_32 : decode cX0_gainOf 32 = .ok (.goto 4, 3) := by decide +kernel
theorem dX0_gainOf_35 : decode cX0_gainOf 35 = .ok (.iconst 0, 1) := by decide +kernel
theorem dX0_gainOf_36 : decode cX0_gainOf 36 = .ok (.istore 4, 2) := by decide +kernel
theorem dX0_gainOf_38 : decode cX0_gainOf 38 = .ok (.iload 4, 2) := by decide +kernel
theorem dX0_gainOf_40 : decode cX0_gainOf 40 = .ok (.iload_n 3, 1) := by decide +kernel
theorem dX0_gainOf_41 : decode cX0_gainOf 41 = .ok (.isub, 1) := by decide +kernel
theorem dX0_gainOf_42 : decode cX0_gainOf 42 = .ok (.ireturn, 1) := by decide +kernel
theorem dX0_consider_0 : decode cX0_consider 0 = .ok (.iload_n 2, 1) := by decide +kernel
theorem dX0_consider_1 : decode cX0_consider 1 = .ok (.aload_n 0, 1) := by decide +kernel
theorem dX0_consider_2 : decode cX0_consider 2 = .ok (.getfield 32, 3) := by decide +kernel
theorem dX0_consider_5 : decode cX0_consider 5 = .ok (.imul, 1) := by decide +kernel
theorem dX0_consider_6 : decode cX0_consider 6 = .ok (.aload_n 0, 1) := by decide +kernel
theorem dX0_consider_7 : decode cX0_consider 7 = .ok (.getfield 28, 3) := by decide +kernel
theorem dX0_consider_10 : decode cX0_consider 10 = .ok (.iload_n 3, 1) := by decide +kernel
theorem dX0_consider_11 : decode cX0_consider 11 = .ok (.imul, 1) := by decide +kernel
theorem dX0_consider_12 : decode cX0_consider 12 = .ok (.if_icmp .le 36, 3) := by decide +kernel
theorem dX0_consider_15 : decode cX0_consider 15 = .ok (.aload_n 0, 1) := by decide +kernel
theorem dX0_consider_16 : decode cX0_consider 16 = .ok (.iload_n 1, 1) := by decide +kernel
theorem dX0_consider_17 : decode cX0_consider 17 = .ok (.putfield 24, 3) := by decide +kernel
theorem dX0_consider_20 : decode cX0_consider 20 = .ok (.aload_n 0, 1) := by decide +kernel
theorem dX0_consider_21 : decode cX0_consider 21 = .ok (.iload_n 2, 1) := by decide +kernel
theorem dX0_consider_22 : decode cX0_consider 22 = .ok (.putfield 28, 3) := by decide +kernel
theorem dX0_consider_25 : decode cX0_consider 25 = .ok (.aload_n 0, 1) := by decide +kernel
theorem dX0_consider_26 : decode cX0_consider 26 = .ok (.iload_n 3, 1) := by decide +kernel
theorem dX0_consider_27 : decode cX0_consider 27 = .ok (.putfield 32, 3) := by decide +kernel
theorem dX0_consider_30 : decode cX0_consider 30 = .ok (.aload_n 0, 1) := by decide +kernel
theorem dX0_consider_31 : decode cX0_consider 31 = .ok (.iload 4, 2) := by decide +kernel
theorem dX0_consider_33 : decode cX0_consider 33 = .ok (.putfield 74, 3) := by decide +kernel
theorem dX0_consider_36 : decode cX0_consider 36 = .ok (.aload_n 0, 1) := by decide +kernel
theorem dX0_consider_37 : decode cX0_consider 37 = .ok (.iload 5, 2) := by decide +kernel
theorem dX0_consider_39 : decode cX0_consider 39 = .ok (.putfield 77, 3) := by decide +kernel
theorem dX0_consider_42 : decode cX0_consider 42 = .ok (.aload_n 0, 1) := by decide +kernel
theorem dX0_consider_43 : decode cX0_consider 43 = .ok (.iload 6, 2) := by decide +kernel
theorem dX0_consider_45 : decode cX0_consider 45 = .ok (.putfield 80, 3) := by decide +kernel
theorem dX0_consider_48 : decode cX0_consider 48 = .ok (.return_, 1) := by decide +kernel
theorem dX0_apply_0 : decode cX0_apply 0 = .ok (.aload_n 0, 1) := by decide +kernel
theorem dX0_apply_1 : decode cX0_apply 1 = .ok (.getfield 24, 3) := by decide +kernel
theorem dX0_apply_4 : decode cX0_apply 4 = .ok (.bipush 32, 2) := by decide +kernel
theorem dX0_apply_6 : decode cX0_apply 6 = .ok (.if_icmp .ne 4, 3) := by decide +kernel
theorem dX0_apply_9 : decode cX0_apply 9 = .ok (.return_, 1) := by decide +kernel
theorem dX0_apply_10 : decode cX0_apply 10 = .ok (.aload_n 0, 1) := by decide +kernel
theorem dX0_apply_11 : decode cX0_apply 11 = .ok (.getfield 15, 3) := by decide +kernel
theorem dX0_apply_14 : decode cX0_apply 14 = .ok (.iconst 0, 1) := by decide +kernel
theorem dX0_apply_15 : decode cX0_apply 15 = .ok (.aload_n 0, 1) := by decide +kernel
theorem dX0_apply_16 : decode cX0_apply 16 = .ok (.getfield 18, 3) := by decide +kernel
theorem dX0_apply_19 : decode cX0_apply 19 = .ok (.iconst 0, 1) := by decide +kernel
theorem dX0_apply_20 : decode cX0_apply 20 = .ok (.bipush 96, 2) := by decide +kernel
theorem dX0_apply_22 : decode cX0_apply 22 = .ok (.invokestatic 83, 3) := by decide +kernel
theorem dX0_apply_25 : decode cX0_apply 25 = .ok (.iconst 0, 1) := by decide +kernel
theorem dX0_apply_26 : decode cX0_apply 26 = .ok (.istore_n 1, 1) := by decide +kernel
theorem dX0_apply_27 : decode cX0_apply 27 = .ok (.iload_n 1, 1) := by decide +kernel
theorem dX0_apply_28 : decode cX0_apply 28 = .ok (.aload_n 0, 1) := by decide +kernel
theorem dX0_apply_29 : decode cX0_apply 29 = .ok (.getfield 80, 3) := by decide +kernel
theorem dX0_apply_32 : decode cX0_apply 32 = .ok (.if_icmp .ge 48, 3) := by decide +kernel
theorem dX0_apply_35 : decode cX0_apply 35 = .ok (.iconst 0, 1) := by decide +kernel
theorem dX0_apply_36 : decode cX0_apply 36 = .ok (.istore_n 2, 1) := by decide +kernel
theorem dX0_apply_37 : decode cX0_apply 37 = .ok (.iload_n 2, 1) := by decide +kernel
theorem dX0_apply_38 : decode cX0_apply 38 = .ok (.aload_n 0, 1) := by decide +kernel
theorem dX0_apply_39 : decode cX0_apply 39 = .ok (.getfield 77, 3) := by decide +kernel
theorem dX0_apply_42 : decode cX0_apply 42 = .ok (.if_icmp .ge 32, 3) := by decide +kernel
theorem dX0_apply_45 : decode cX0_apply 45 = .ok (.aload_n 0, 1) := by decide +kernel
theorem dX0_apply_46 : decode cX0_apply 46 = .ok (.getfield 35, 3) := by decide +kernel
theorem dX0_apply_49 : decode cX0_apply 49 = .ok (.iload_n 1, 1) := by decide +kernel
theorem dX0_apply_50 : decode cX0_apply 50 = .ok (.bipush 12, 2) := by decide +kernel
theorem dX0_apply_52 : decode cX0_apply 52 = .ok (.imul, 1) := by decide +kernel
theorem dX0_apply_53 : decode cX0_apply 53 = .ok (.iadd, 1) := by decide +kernel
theorem dX0_apply_54 : decode cX0_apply 54 = .ok (.iload_n 2, 1) := by decide +kernel
theorem dX0_apply_55 : decode cX0_apply 55 = .ok (.iadd, 1) := by decide +kernel
theorem dX0_apply_56 : decode cX0_apply 56 = .ok (.istore_n 3, 1) := by decide +kernel
theorem dX0_apply_57 : decode cX0_apply 57 = .ok (.aload_n 0, 1) := by decide +kernel
theorem dX0_apply_58 : decode cX0_apply 58 = .ok (.getfield 15, 3) := by decide +kernel
theorem dX0_apply_61 : decode cX0_apply 61 = .ok (.iload_n 3, 1) := by decide +kernel
theorem dX0_apply_62 : decode cX0_apply 62 = .ok (.aload_n 0, 1) := by decide +kernel
theorem dX0_apply_63 : decode cX0_apply 63 = .ok (.iload_n 3, 1) := by decide +kernel
theorem dX0_apply_64 : decode cX0_apply 64 = .ok (.invokevirtual 89, 3) := by decide +kernel
theorem dX0_apply_67 : decode cX0_apply 67 = .ok (.iastore, 1) := by decide +kernel
theorem dX0_apply_68 : decode cX0_apply 68 = .ok (.iinc 2 1, 3) := by decide +kernel
theorem dX0_apply_71 : decode cX0_apply 71 = .ok (.goto (-34), 3) := by decide +kernel
theorem dX0_apply_74 : decode cX0_apply 74 = .ok (.iinc 1 1, 3) := by decide +kernel
theorem dX0_apply_77 : decode cX0_apply 77 = .ok (.goto (-50), 3) := by decide +kernel
theorem dX0_apply_80 : decode cX0_apply 80 = .ok (.return_, 1) := by decide +kernel
theorem dX0_colourAfter_0 : decode cX0_colourAfter 0 = .ok (.aload_n 0, 1) := by decide +kernel
theorem dX0_colourAfter_1 : decode cX0_colourAfter 1 = .ok (.getfield 24, 3) := by decide +kernel
theorem dX0_colourAfter_4 : decode cX0_colourAfter 4 = .ok (.bipush 99, 2) := by decide +kernel
theorem dX0_colourAfter_6 : decode cX0_colourAfter 6 = .ok (.if_icmp .ne 15, 3) := by decide +kernel
theorem dX0_colourAfter_9 : decode cX0_colourAfter 9 = .ok (.aload_n 0, 1) := by decide +kernel
theorem dX0_colourAfter_10 : decode cX0_colourAfter 10 = .ok (.getfield 18, 3) := by decide +kernel
theorem dX0_colourAfter_13 : decode cX0_colourAfter 13 = .ok (.iload_n 1, 1) := by decide +kernel
theorem dX0_colourAfter_14 : decode cX0_colourAfter 14 = .ok (.aload_n 0, 1) := by decide +kernel
theorem dX0_colourAfter_15 : decode cX0_colourAfter 15 = .ok (.getfield 74, 3) := by decide +kernel
theorem dX0_colourAfter_18 : decode cX0_colourAfter 18 = .ok (.iadd, 1) := by decide +kernel
theorem dX0_colourAfter_19 : decode cX0_colourAfter 19 = .ok (.iaload, 1) := by decide +kernel
theorem dX0_colourAfter_20 : decode cX0_colourAfter 20 = .ok (.ireturn, 1) := by decide +kernel
theorem dX0_colourAfter_21 : decode cX0_colourAfter 21 = .ok (.aload_n 0, 1) := by decide +kernel
theorem dX0_colourAfter_22 : decode cX0_colourAfter 22 = .ok (.getfield 24, 3) := by decide +kernel
theorem dX0_colourAfter_25 : decode cX0_colourAfter 25 = .ok (.bipush 102, 2) := by decide +kernel
theorem dX0_colourAfter_27 : decode cX0_colourAfter 27 = .ok (.if_icmp .ne 15, 3) := by decide +kernel
theorem dX0_colourAfter_30 : decode cX0_colourAfter 30 = .ok (.aload_n 0, 1) := by decide +kernel
theorem dX0_colourAfter_31 : decode cX0_colourAfter 31 = .ok (.getfield 9, 3) := by decide +kernel
theorem dX0_colourAfter_34 : decode cX0_colourAfter 34 = .ok (.aload_n 0, 1) := by decide +kernel
theorem dX0_colourAfter_35 : decode cX0_colourAfter 35 = .ok (.getfield 35, 3) := by decide +kernel
theorem dX0_colourAfter_38 : decode cX0_colourAfter 38 = .ok (.iaload, 1) := by decide +kernel
theorem dX0_colourAfter_39 : decode cX0_colourAfter 39 = .ok (.goto 9, 3) := by decide +kernel
theorem dX0_colourAfter_42 : decode cX0_colourAfter 42 = .ok (.aload_n 0, 1) := by decide +kernel
theorem dX0_colourAfter_43 : decode cX0_colourAfter 43 = .ok (.getfield 9, 3) := by decide +kernel
theorem dX0_colourAfter_46 : decode cX0_colourAfter 46 = .ok (.iload_n 1, 1) := by decide +kernel
theorem dX0_colourAfter_47 : decode cX0_colourAfter 47 = .ok (.iaload, 1) := by decide +kernel
theorem dX0_colourAfter_48 : decode cX0_colourAfter 48 = .ok (.ireturn, 1) := by decide +kernel
theorem dX1_init_0 : decode cX1_init 0 = .ok (.aload_n 0, 1) := by decide +kernel
theorem dX1_init_1 : decode cX1_init 1 = .ok (.invokespecial 3, 3) := by decide +kernel
theorem dX1_init_4 : decode cX1_init 4 = .ok (.aload_n 0, 1) := by decide +kernel
theorem dX1_init_5 : decode cX1_init 5 = .ok (.aload_n 1, 1) := by decide +kernel
theorem dX1_init_6 : decode cX1_init 6 = .ok (.putfield 9, 3) := by decide +kernel
theorem dX1_init_9 : decode cX1_init 9 = .ok (.aload_n 0, 1) := by decide +kernel
theorem dX1_init_10 : decode cX1_init 10 = .ok (.iload_n 2, 1) := by decide +kernel
theorem dX1_init_11 : decode cX1_init 11 = .ok (.putfield 15, 3) := by decide +kernel
theorem dX1_init_14 : decode cX1_init 14 = .ok (.aload_n 0, 1) := by decide +kernel
theorem dX1_init_15 : decode cX1_init 15 = .ok (.new 19, 3) := by decide +kernel
theorem dX1_init_18 : decode cX1_init 18 = .ok (.dup, 1) := by decide +kernel
theorem dX1_init_19 : decode cX1_init 19 = .ok (.aload_n 1, 1) := by decide +kernel
theorem dX1_init_20 : decode cX1_init 20 = .ok (.getfield 21, 3) := by decide +kernel
theorem dX1_init_23 : decode cX1_init 23 = .ok (.invokespecial 27, 3) := by decide +kernel
theorem dX1_init_26 : decode cX1_init 26 = .ok (.putfield 30, 3) := by decide +kernel
theorem dX1_init_29 : decode cX1_init 29 = .ok (.aload_n 0, 1) := by decide +kernel
theorem dX1_init_30 : decode cX1_init 30 = .ok (.aload_n 0, 1) := by decide +kernel
theorem dX1_init_31 : decode cX1_init 31 = .ok (.getfield 30, 3) := by decide +kernel
theorem dX1_init_34 : decode cX1_init 34 = .ok (.getfield 34, 3) := by decide +kernel
theorem dX1_init_37 : decode cX1_init 37 = .ok (.putfield 37, 3) := by decide +kernel
theorem dX1_init_40 : decode cX1_init 40 = .ok (.return_, 1) := by decide +kernel
theorem dX1_countBehind_0 : decode cX1_countBehind 0 = .ok (.iconst 0, 1) := by decide +kernel
theorem dX1_countBehind_1 : decode cX1_countBehind 1 = .ok (.istore_n 1, 1) := by decide +kernel
theorem dX1_countBehind_2 : decode cX1_countBehind 2 = .ok (.iconst 0, 1) := by decide +kernel
theorem dX1_countBehind_3 : decode cX1_countBehind 3 = .ok (.istore_n 2, 1) := by decide +kernel
theorem dX1_countBehind_4 : decode cX1_countBehind 4 = .ok (.iload_n 2, 1) := by decide +kernel
theorem dX1_countBehind_5 : decode cX1_countBehind 5 = .ok (.bipush 96, 2) := by decide +kernel
theorem dX1_countBehind_7 : decode cX1_countBehind 7 = .ok (.if_icmp .ge 23, 3) := by decide +kernel
theorem dX1_countBehind_10 : decode cX1_countBehind 10 = .ok (.aload_n 0, 1) := by decide +kernel
theorem dX1_countBehind_11 : decode cX1_countBehind 11 = .ok (.getfield 30, 3) := by decide +kernel
theorem dX1_countBehind_14 : decode cX1_countBehind 14 = .ok (.iload_n 2, 1) := by decide +kernel
theorem dX1_countBehind_15 : decode cX1_countBehind 15 = .ok (.invokevirtual 38, 3) := by decide +kernel
theorem dX1_countBehind_18 : decode cX1_countBehind 18 = .ok (.ifCond .eq 6, 3) := by decide +kernel
theorem dX1_countBehind_21 : decode cX1_countBehind 21 = .ok (.iinc 1 1, 3) := by decide +kernel
theorem dX1_countBehind_24 : decode cX1_countBehind 24 = .ok (.iinc 2 1, 3) := by decide +kernel
theorem dX1_countBehind_27 : decode cX1_countBehind 27 = .ok (.goto (-23), 3) := by decide +kernel
theorem dX1_countBehind_30 : decode cX1_countBehind 30 = .ok (.iload_n 1, 1) := by decide +kernel
theorem dX1_countBehind_31 : decode cX1_countBehind 31 = .ok (.ireturn, 1) := by decide +kernel
theorem dX1_endGuess_0 : decode cX1_endGuess 0 = .ok (.aload_n 0, 1) := by decide +kernel
theorem dX1_endGuess_1 : decode cX1_endGuess 1 = .ok (.dup, 1) := by decide +kernel
theorem dX1_endGuess_2 : decode cX1_endGuess 2 = .ok (.getfield 42, 3) := by decide +kernel
theorem dX1_endGuess_5 : decode cX1_endGuess 5 = .ok (.iconst 1, 1) := by decide +kernel
theorem dX1_endGuess_6 : decode cX1_endGuess 6 = .ok (.iadd, 1) := by decide +kernel
theorem dX1_endGuess_7 : decode cX1_endGuess 7 = .ok (.putfield 42, 3) := by decide +kernel
theorem dX1_endGuess_10 : decode cX1_endGuess 10 = .ok (.iload_n 1, 1) := by decide +kernel
theorem dX1_endGuess_11 : decode cX1_endGuess 11 = .ok (.ifCond .eq 13, 3) := by decide +kernel
theorem dX1_endGuess_14 : decode cX1_endGuess 14 = .ok (.aload_n 0, 1) := by decide +kernel
theorem dX1_endGuess_15 : decode cX1_endGuess 15 = .ok (.dup, 1) := by decide +kernel
theorem dX1_endGuess_16 : decode cX1_endGuess 16 = .ok (.getfield 45, 3) := by decide +kernel
theorem dX1_endGuess_19 : decode cX1_endGuess 19 = .ok (.iconst 1, 1) := by decide +kernel
theorem dX1_endGuess_20 : decode cX1_endGuess 20 = .ok (.iadd, 1) := by decide +kernel
theorem dX1_endGuess_21 : decode cX1_endGuess 21 = .ok (.putfield 45, 3) := by decide +kernel
theorem dX1_endGuess_24 : decode cX1_endGuess 24 = .ok (.return_, 1) := by decide +kernel
theorem dX2_init_0 : decode cX2_init 0 = .ok (.aload_n 0, 1) := by decide +kernel
theorem dX2_init_1 : decode cX2_init 1 = .ok (.invokespecial 3, 3) := by decide +kernel
theorem dX2_init_4 : decode cX2_init 4 = .ok (.aload_n 0, 1) := by decide +kernel
theorem dX2_init_5 : decode cX2_init 5 = .ok (.iconst (-1), 1) := by decide +kernel
theorem dX2_init_6 : decode cX2_init 6 = .ok (.putfield 9, 3) := by decide +kernel
theorem dX2_init_9 : decode cX2_init 9 = .ok (.return_, 1) := by decide +kernel
theorem dX2_hold_0 : decode cX2_hold 0 = .ok (.aload_n 0, 1) := by decide +kernel
theorem dX2_hold_1 : decode cX2_hold 1 = .ok (.iload_n 1, 1) := by decide +kernel
theorem dX2_hold_2 : decode cX2_hold 2 = .ok (.putfield 9, 3) := by decide +kernel
theorem dX2_hold_5 : decode cX2_hold 5 = .ok (.aload_n 0, 1) := by decide +kernel
theorem dX2_hold_6 : decode cX2_hold 6 = .ok (.iload_n 2, 1) := by decide +kernel
theorem dX2_hold_7 : decode cX2_hold 7 = .ok (.putfield 15, 3) := by decide +kernel
theorem dX2_hold_10 : decode cX2_hold 10 = .ok (.aload_n 0, 1) := by decide +kernel
theorem dX2_hold_11 : decode cX2_hold 11 = .ok (.iload_n 3, 1) := by decide +kernel
theorem dX2_hold_12 : decode cX2_hold 12 = .ok (.putfield 18, 3) := by decide +kernel
theorem dX2_hold_15 : decode cX2_hold 15 = .ok (.return_, 1) := by decide +kernel
theorem dX3_init_0 : decode cX3_init 0 = .ok (.aload_n 0, 1) := by decide +kernel
theorem dX3_init_1 : decode cX3_init 1 = .ok (.invokespecial 1, 3) := by decide +kernel
theorem dX3_init_4 : decode cX3_init 4 = .ok (.aload_n 0, 1) := by decide +kernel
theorem dX3_init_5 : decode cX3_init 5 = .ok (.aload_n 1, 1) := by decide +kernel
theorem dX3_init_6 : decode cX3_init 6 = .ok (.putfield 7, 3) := by decide +kernel
theorem dX3_init_9 : decode cX3_init 9 = .ok (.aload_n 0, 1) := by decide +kernel
theorem dX3_init_10 : decode cX3_init 10 = .ok (.aload_n 2, 1) := by decide +kernel
theorem dX3_init_11 : decode cX3_init 11 = .ok (.putfield 13, 3) := by decide +kernel
theorem dX3_init_14 : decode cX3_init 14 = .ok (.aload_n 0, 1) := by decide +kernel
theorem dX3_init_15 : decode cX3_init 15 = .ok (.iload_n 3, 1) := by decide +kernel
theorem dX3_init_16 : decode cX3_init 16 = .ok (.putfield 17, 3) := by decide +kernel
theorem dX3_init_19 : decode cX3_init 19 = .ok (.aload_n 0, 1) := by decide +kernel
theorem dX3_init_20 : decode cX3_init 20 = .ok (.iload 4, 2) := by decide +kernel
theorem dX3_init_22 : decode cX3_init 22 = .ok (.putfield 21, 3) := by decide +kernel
theorem dX3_init_25 : decode cX3_init 25 = .ok (.return_, 1) := by decide +kernel
theorem dX4_init_0 : decode cX4_init 0 = .ok (.aload_n 0, 1) := by decide +kernel
theorem dX4_init_1 : decode cX4_init 1 = .ok (.invokespecial 3, 3) := by decide +kernel
theorem dX4_init_4 : decode cX4_init 4 = .ok (.aload_n 0, 1) := by decide +kernel
theorem dX4_init_5 : decode cX4_init 5 = .ok (.sipush 5760, 3) := by decide +kernel
theorem dX4_init_8 : decode cX4_init 8 = .ok (.newarray .int, 2) := by decide +kernel
theorem dX4_init_10 : decode cX4_init 10 = .ok (.putfield 9, 3) := by decide +kernel
theorem dX4_init_13 : decode cX4_init 13 = .ok (.aload_n 0, 1) := by decide +kernel
theorem dX4_init_14 : decode cX4_init 14 = .ok (.sipush 5760, 3) := by decide +kernel
theorem dX4_init_17 : decode cX4_init 17 = .ok (.newarray .int, 2) := by decide +kernel
theorem dX4_init_19 : decode cX4_init 19 = .ok (.putfield 15, 3) := by decide +kernel
theorem dX4_init_22 : decode cX4_init 22 = .ok (.aload_n 0, 1) := by decide +kernel
theorem dX4_init_23 : decode cX4_init 23 = .ok (.bipush 61, 2) := by decide +kernel
theorem dX4_init_25 : decode cX4_init 25 = .ok (.newarray .int, 2) := by decide +kernel
theorem dX4_init_27 : decode cX4_init 27 = .ok (.putfield 18, 3) := by decide +kernel
theorem dX4_init_30 : decode cX4_init 30 = .ok (.aload_n 0, 1) := by decide +kernel
theorem dX4_init_31 : decode cX4_init 31 = .ok (.bipush 96, 2) := by decide +kernel
theorem dX4_init_33 : decode cX4_init 33 = .ok (.newarray .int, 2) := by decide +kernel
theorem dX4_init_35 : decode cX4_init 35 = .ok (.putfield 21, 3) := by decide +kernel
theorem dX4_init_38 : decode cX4_init 38 = .ok (.aload_n 0, 1) := by decide +kernel
theorem dX4_init_39 : decode cX4_init 39 = .ok (.bipush 96, 2) := by decide +kernel
theorem dX4_init_41 : decode cX4_init 41 = .ok (.newarray .int, 2) := by decide +kernel
theorem dX4_init_43 : decode cX4_init 43 = .ok (.putfield 24, 3) := by decide +kernel
theorem dX4_init_46 : decode cX4_init 46 = .ok (.return_, 1) := by decide +kernel
theorem dX4_begin_0 : decode cX4_begin 0 = .ok (.aload_n 0, 1) := by decide +kernel
theorem dX4_begin_1 : decode cX4_begin 1 = .ok (.iconst 0, 1) := by decide +kernel
theorem dX4_begin_2 : decode cX4_begin 2 = .ok (.putfield 27, 3) := by decide +kernel
theorem dX4_begin_5 : decode cX4_begin 5 = .ok (.aload_n 0, 1) := by decide +kernel
theorem dX4_begin_6 : decode cX4_begin 6 = .ok (.iconst 0, 1) := by decide +kernel
theorem dX4_begin_7 : decode cX4_begin 7 = .ok (.putfield 31, 3) := by decide +kernel
theorem dX4_begin_10 : decode cX4_begin 10 = .ok (.aload_n 0, 1) := by decide +kernel
theorem dX4_begin_11 : decode cX4_begin 11 = .ok (.getfield 21, 3) := by decide +kernel
theorem dX4_begin_14 : decode cX4_begin 14 = .ok (.iconst 0, 1) := by decide +kernel
theorem dX4_begin_15 : decode cX4_begin 15 = .ok (.invokestatic 34, 3) := by decide +kernel
theorem dX4_begin_18 : decode cX4_begin 18 = .ok (.return_, 1) := by decide +kernel
theorem dX4_isFull_0 : decode cX4_isFull 0 = .ok (.aload_n 0, 1) := by decide +kernel
theorem dX4_isFull_1 : decode cX4_isFull 1 = .ok (.getfield 27, 3) := by decide +kernel
theorem dX4_isFull_4 : decode cX4_isFull 4 = .ok (.bipush 60, 2) := by decide +kernel
theorem dX4_isFull_6 : decode cX4_isFull 6 = .ok (.if_icmp .lt 7, 3) := by decide +kernel
theorem dX4_isFull_9 : decode cX4_isFull 9 = .ok (.iconst 1, 1) := by decide +kernel
theorem dX4_isFull_10 : decode cX4_isFull 10 = .ok (.goto 4, 3) := by decide +kernel
theorem dX4_isFull_13 : decode cX4_isFull 13 = .ok (.iconst 0, 1) := by decide +kernel
theorem dX4_isFull_14 : decode cX4_isFull 14 = .ok (.ireturn, 1) := by decide +kernel
theorem dX4_look_0 : decode cX4_look 0 = .ok (.aload_n 0, 1) := by decide +kernel
theorem dX4_look_1 : decode cX4_look 1 = .ok (.getfield 21, 3) := by decide +kernel
theorem dX4_look_4 : decode cX4_look 4 = .ok (.iload_n 1, 1) := by decide +kernel
theorem dX4_look_5 : decode cX4_look 5 = .ok (.iaload, 1) := by decide +kernel
theorem dX4_look_6 : decode cX4_look 6 = .ok (.iload_n 2, 1) := by decide +kernel
theorem dX4_look_7 : decode cX4_look 7 = .ok (.if_icmp .eq 52, 3) := by decide +kernel
theorem dX4_look_10 : decode cX4_look 10 = .ok (.aload_n 0, 1) := by decide +kernel
theorem dX4_look_11 : decode cX4_look 11 = .ok (.getfield 31, 3) := by decide +kernel
theorem dX4_look_14 : decode cX4_look 14 = .ok (.aload_n 0, 1) := by decide +kernel
theorem dX4_look_15 : decode cX4_look 15 = .ok (.getfield 9, 3) := by decide +kernel
theorem dX4_look_18 : decode cX4_look 18 = .ok (.arraylength, 1) := by decide +kernel
theorem dX4_look_19 : decode cX4_look 19 = .ok (.if_icmp .ge 40, 3) := by decide +kernel
theorem dX4_look_22 : decode cX4_look 22 = .ok (.aload_n 0, 1) := by decide +kernel
theorem dX4_look_23 : decode cX4_look 23 = .ok (.getfield 9, 3) := by decide +kernel
theorem dX4_look_26 : decode cX4_look 26 = .ok (.aload_n 0, 1) := by decide +kernel
theorem dX4_look_27 : decode cX4_look 27 = .ok (.getfield 31, 3) := by decide +kernel
theorem dX4_look_30 : decode cX4_look 30 = .ok (.iload_n 1, 1) := by decide +kernel
theorem dX4_look_31 : decode cX4_look 31 = .ok (.iastore, 1) := by decide +kernel
theorem dX4_look_32 : decode cX4_look 32 = .ok (.aload_n 0, 1) := by decide +kernel
theorem dX4_look_33 : decode cX4_look 33 = .ok (.getfield 15, 3) := by decide +kernel
theorem dX4_look_36 : decode cX4_look 36 = .ok (.aload_n 0, 1) := by decide +kernel
theorem dX4_look_37 : decode cX4_look 37 = .ok (.getfield 31, 3) := by decide +kernel
theorem dX4_look_40 : decode cX4_look 40 = .ok (.iload_n 2, 1) := by decide +kernel
theorem dX4_look_41 : decode cX4_look 41 = .ok (.iastore, 1) := by decide +kernel
theorem dX4_look_42 : decode cX4_look 42 = .ok (.aload_n 0, 1) := by decide +kernel
theorem dX4_look_43 : decode cX4_look 43 = .ok (.dup, 1) := by decide +kernel
theorem dX4_look_44 : decode cX4_look 44 = .ok (.getfield 31, 3) := by decide +kernel
theorem dX4_look_47 : decode cX4_look 47 = .ok (.iconst 1, 1) := by decide +kernel
theorem dX4_look_48 : decode cX4_look 48 = .ok (.iadd, 1) := by decide +kernel
theorem dX4_look_49 : decode cX4_look 49 = .ok (.putfield 31, 3) := by decide +kernel
theorem dX4_look_52 : decode cX4_look 52 = .ok (.aload_n 0, 1) := by decide +kernel
theorem dX4_look_53 : decode cX4_look 53 = .ok (.getfield 21, 3) := by decide +kernel
theorem dX4_look_56 : decode cX4_look 56 = .ok (.iload_n 1, 1) := by decide +kernel
theorem dX4_look_57 : decode cX4_look 57 = .ok (.iload_n 2, 1) := by decide +kernel
theorem dX4_look_58 : decode cX4_look 58 = .ok (.iastore, 1) := by decide +kernel
theorem dX4_look_59 : decode cX4_look 59 = .ok (.return_, 1) := by decide +kernel
theorem dX4_endTick_0 : decode cX4_endTick 0 = .ok (.aload_n 0, 1) := by decide +kernel
theorem dX4_endTick_1 : decode cX4_endTick 1 = .ok (.getfield 27, 3) := by decide +kernel
theorem dX4_endTick_4 : decode cX4_endTick 4 = .ok (.bipush 60, 2) := by decide +kernel
theorem dX4_endTick_6 : decode cX4_endTick 6 = .ok (.if_icmp .ge 26, 3) := by decide +kernel
theorem dX4_endTick_9 : decode cX4_endTick 9 = .ok (.aload_n 0, 1) := by decide +kernel
theorem dX4_endTick_10 : decode cX4_endTick 10 = .ok (.dup, 1) := by decide +kernel
theorem dX4_endTick_11 : decode cX4_endTick 11 = .ok (.getfield 27, 3) := by decide +kernel
theorem dX4_endTick_14 : decode cX4_endTick 14 = .ok (.iconst 1, 1) := by decide +kernel
theorem dX4_endTick_15 : decode cX4_endTick 15 = .ok (.iadd, 1) := by decide +kernel
theorem dX4_endTick_16 : decode cX4_endTick 16 = .ok (.putfield 27, 3) := by decide +kernel
theorem dX4_endTick_19 : decode cX4_endTick 19 = .ok (.aload_n 0, 1) := by decide +kernel
theorem dX4_endTick_20 : decode cX4_endTick 20 = .ok (.getfield 18, 3) := by decide +kernel
theorem dX4_endTick_23 : decode cX4_endTick 23 = .ok (.aload_n 0, 1) := by decide +kernel
theorem dX4_endTick_24 : decode cX4_endTick 24 = .ok (.getfield 27, 3) := by decide +kernel
theorem dX4_endTick_27 : decode cX4_endTick 27 = .ok (.aload_n 0, 1) := by decide +kernel
theorem dX4_endTick_28 : decode cX4_endTick 28 = .ok (.getfield 31, 3) := by decide +kernel
theorem dX4_endTick_31 : decode cX4_endTick 31 = .ok (.iastore, 1) := by decide +kernel
theorem dX4_endTick_32 : decode cX4_endTick 32 = .ok (.return_, 1) := by decide +kernel
theorem dX4_play_0 : decode cX4_play 0 = .ok (.aload_n 0, 1) := by decide +kernel
theorem dX4_play_1 : decode cX4_play 1 = .ok (.getfield 24, 3) := by decide +kernel
theorem dX4_play_4 : decode cX4_play 4 = .ok (.iconst 0, 1) := by decide +kernel
theorem dX4_play_5 : decode cX4_play 5 = .ok (.invokestatic 34, 3) := by decide +kernel
theorem dX4_play_8 : decode cX4_play 8 = .ok (.iload_n 1, 1) := by decide +kernel
theorem dX4_play_9 : decode cX4_play 9 = .ok (.iconst 1, 1) := by decide +kernel
theorem dX4_play_10 : decode cX4_play 10 = .ok (.aload_n 0, 1) := by decide +kernel
theorem dX4_play_11 : decode cX4_play 11 = .ok (.getfield 27, 3) := by decide +kernel
theorem dX4_play_14 : decode cX4_play 14 = .ok (.invokestatic 40, 3) := by decide +kernel
theorem dX4_play_17 : decode cX4_play 17 = .ok (.ifCond .eq 40, 3) := by decide +kernel
theorem dX4_play_20 : decode cX4_play 20 = .ok (.aload_n 0, 1) := by decide +kernel
theorem dX4_play_21 : decode cX4_play 21 = .ok (.getfield 18, 3) := by decide +kernel
theorem dX4_play_24 : decode cX4_play 24 = .ok (.iload_n 1, 1) := by decide +kernel
theorem dX4_play_25 : decode cX4_play 25 = .ok (.iaload, 1) := by decide +kernel
theorem dX4_play_26 : decode cX4_play 26 = .ok (.istore_n 2, 1) := by decide +kernel
theorem dX4_play_27 : decode cX4_play 27 = .ok (.iconst 0, 1) := by decide +kernel
theorem dX4_play_28 : decode cX4_play 28 = .ok (.istore_n 3, 1) := by decide +kernel
theorem dX4_play_29 : decode cX4_play 29 = .ok (.iload_n 3, 1) := by decide +kernel
theorem dX4_play_30 : decode cX4_play 30 = .ok (.iload_n 2, 1) := by decide +kernel
theorem dX4_play_31 : decode cX4_play 31 = .ok (.if_icmp .ge 26, 3) := by decide +kernel
theorem dX4_play_34 : decode cX4_play 34 = .ok (.aload_n 0, 1) := by decide +kernel
theorem dX4_play_35 : decode cX4_play 35 = .ok (.getfield 24, 3) := by decide +kernel
theorem dX4_play_38 : decode cX4_play 38 = .ok (.aload_n 0, 1) := by decide +kernel
theorem dX4_play_39 : decode cX4_play 39 = .ok (.getfield 9, 3) := by decide +kernel
theorem dX4_play_42 : decode cX4_play 42 = .ok (.iload_n 3, 1) := by decide +kernel
theorem dX4_play_43 : decode cX4_play 43 = .ok (.iaload, 1) := by decide +kernel
theorem dX4_play_44 : decode cX4_play 44 = .ok (.aload_n 0, 1) := by decide +kernel
theorem dX4_play_45 : decode cX4_play 45 = .ok (.getfield 15, 3) := by decide +kernel
theorem dX4_play_48 : decode cX4_play 48 = .ok (.iload_n 3, 1) := by decide +kernel
theorem dX4_play_49 : decode cX4_play 49 = .ok (.iaload, 1) := by decide +kernel
theorem dX4_play_50 : decode cX4_play 50 = .ok (.iastore, 1) := by decide +kernel
theorem dX4_play_51 : decode cX4_play 51 = .ok (.iinc 3 1, 3) := by decide +kernel
theorem dX4_play_54 : decode cX4_play 54 = .ok (.goto (-25), 3) := by decide +kernel
theorem dX4_play_57 : decode cX4_play 57 = .ok (.return_, 1) := by decide +kernel
theorem dX4_isAsLookedAt_0 : decode cX4_isAsLookedAt 0 = .ok (.aload_n 0, 1) := by decide +kernel
theorem dX4_isAsLookedAt_1 : decode cX4_isAsLookedAt 1 = .ok (.aload_n 0, 1) := by decide +kernel
theorem dX4_isAsLookedAt_2 : decode cX4_isAsLookedAt 2 = .ok (.getfield 27, 3) := by decide +kernel
theorem dX4_isAsLookedAt_5 : decode cX4_isAsLookedAt 5 = .ok (.invokevirtual 44, 3) := by decide +kernel
theorem dX4_isAsLookedAt_8 : decode cX4_isAsLookedAt 8 = .ok (.iconst 0, 1) := by decide +kernel
theorem dX4_isAsLookedAt_9 : decode cX4_isAsLookedAt 9 = .ok (.istore_n 1, 1) := by decide +kernel
theorem dX4_isAsLookedAt_10 : decode cX4_isAsLookedAt 10 = .ok (.iload_n 1, 1) := by decide +kernel
theorem dX4_isAsLookedAt_11 : decode cX4_isAsLookedAt 11 = .ok (.bipush 96, 2) := by decide +kernel
theorem dX4_isAsLookedAt_13 : decode cX4_isAsLookedAt 13 = .ok (.if_icmp .ge 26, 3) := by decide +kernel
theorem dX4_isAsLookedAt_16 : decode cX4_isAsLookedAt 16 = .ok (.aload_n 0, 1) := by decide +kernel
theorem dX4_isAsLookedAt_17 : decode cX4_isAsLookedAt 17 = .ok (.getfield 24, 3) := by decide +kernel
theorem dX4_isAsLookedAt_20 : decode cX4_isAsLookedAt 20 = .ok (.iload_n 1, 1) := by decide +kernel
theorem dX4_isAsLookedAt_21 : decode cX4_isAsLookedAt 21 = .ok (.iaload, 1) := by decide +kernel
theorem dX4_isAsLookedAt_22 : decode cX4_isAsLookedAt 22 = .ok (.aload_n 0, 1) := by decide +kernel
theorem dX4_isAsLookedAt_23 : decode cX4_isAsLookedAt 23 = .ok (.getfield 21, 3) := by decide +kernel
theorem dX4_isAsLookedAt_26 : decode cX4_isAsLookedAt 26 = .ok (.iload_n 1, 1) := by decide +kernel
theorem dX4_isAsLookedAt_27 : decode cX4_isAsLookedAt 27 = .ok (.iaload, 1) := by decide +kernel
theorem dX4_isAsLookedAt_28 : decode cX4_isAsLookedAt 28 = .ok (.if_icmp .eq 5, 3) := by decide +kernel
theorem dX4_isAsLookedAt_31 : decode cX4_isAsLookedAt 31 = .ok (.iconst 0, 1) := by decide +kernel
theorem dX4_isAsLookedAt_32 : decode cX4_isAsLookedAt 32 = .ok (.ireturn, 1) := by decide +kernel
theorem dX4_isAsLookedAt_33 : decode cX4_isAsLookedAt 33 = .ok (.iinc 1 1, 3) := by decide +kernel
theorem dX4_isAsLookedAt_36 : decode cX4_isAsLookedAt 36 = .ok (.goto (-26), 3) := by decide +kernel
theorem dX4_isAsLookedAt_39 : decode cX4_isAsLookedAt 39 = .ok (.iconst 1, 1) := by decide +kernel
theorem dX4_isAsLookedAt_40 : decode cX4_isAsLookedAt 40 = .ok (.ireturn, 1) := by decide +kernel
theorem dX5_init_0 : decode cX5_init 0 = .ok (.aload_n 0, 1) := by decide +kernel
theorem dX5_init_1 : decode cX5_init 1 = .ok (.invokespecial 3, 3) := by decide +kernel
theorem dX5_init_4 : decode cX5_init 4 = .ok (.aload_n 0, 1) := by decide +kernel
theorem dX5_init_5 : decode cX5_init 5 = .ok (.bipush 6, 2) := by decide +kernel
theorem dX5_init_7 : decode cX5_init 7 = .ok (.anewarray 9, 3) := by decide +kernel
theorem dX5_init_10 : decode cX5_init 10 = .ok (.putfield 11, 3) := by decide +kernel
theorem dX5_init_13 : decode cX5_init 13 = .ok (.aload_n 0, 1) := by decide +kernel
theorem dX5_init_14 : decode cX5_init 14 = .ok (.new 17, 3) := by decide +kernel
theorem dX5_init_17 : decode cX5_init 17 = .ok (.dup, 1) := by decide +kernel
theorem dX5_init_18 : decode cX5_init 18 = .ok (.invokespecial 19, 3) := by decide +kernel
theorem dX5_init_21 : decode cX5_init 21 = .ok (.putfield 20, 3) := by decide +kernel
theorem dX5_init_24 : decode cX5_init 24 = .ok (.aload_n 0, 1) := by decide +kernel
theorem dX5_init_25 : decode cX5_init 25 = .ok (.new 17, 3) := by decide +kernel
theorem dX5_init_28 : decode cX5_init 28 = .ok (.dup, 1) := by decide +kernel
theorem dX5_init_29 : decode cX5_init 29 = .ok (.invokespecial 19, 3) := by decide +kernel
theorem dX5_init_32 : decode cX5_init 32 = .ok (.putfield 24, 3) := by decide +kernel
theorem dX5_init_35 : decode cX5_init 35 = .ok (.aload_n 0, 1) := by decide +kernel
theorem dX5_init_36 : decode cX5_init 36 = .ok (.bipush 96, 2) := by decide +kernel
theorem dX5_init_38 : decode cX5_init 38 = .ok (.newarray .int, 2) := by decide +kernel
theorem dX5_init_40 : decode cX5_init 40 = .ok (.putfield 27, 3) := by decide +kernel
theorem dX5_init_43 : decode cX5_init 43 = .ok (.aload_n 0, 1) := by decide +kernel
theorem dX5_init_44 : decode cX5_init 44 = .ok (.new 31, 3) := by decide +kernel
theorem dX5_init_47 : decode cX5_init 47 = .ok (.dup, 1) := by decide +kernel
theorem dX5_init_48 : decode cX5_init 48 = .ok (.invokespecial 33, 3) := by decide +kernel
theorem dX5_init_51 : decode cX5_init 51 = .ok (.putfield 34, 3) := by decide +kernel
theorem dX5_init_54 : decode cX5_init 54 = .ok (.aload_n 0, 1) := by decide +kernel
theorem dX5_init_55 : decode cX5_init 55 = .ok (.new 38, 3) := by decide +kernel
theorem dX5_init_58 : decode cX5_init 58 = .ok (.dup, 1) := by decide +kernel
theorem dX5_init_59 : decode cX5_init 59 = .ok (.invokespecial 40, 3) := by decide +kernel
theorem dX5_init_62 : decode cX5_init 62 = .ok (.putfield 41, 3) := by decide +kernel
theorem dX5_init_65 : decode cX5_init 65 = .ok (.return_, 1) := by decide +kernel
theorem dX5_addWindow_0 : decode cX5_addWindow 0 = .ok (.aload_n 0, 1) := by decide +kernel
theorem dX5_addWindow_1 : decode cX5_addWindow 1 = .ok (.getfield 45, 3) := by decide +kernel
theorem dX5_addWindow_4 : decode cX5_addWindow 4 = .ok (.istore_n 2, 1) := by decide +kernel
theorem dX5_addWindow_5 : decode cX5_addWindow 5 = .ok (.iload_n 2, 1) := by decide +kernel
theorem dX5_addWindow_6 : decode cX5_addWindow 6 = .ok (.bipush 6, 2) := by decide +kernel
theorem dX5_addWindow_8 : decode cX5_addWindow 8 = .ok (.if_icmp .ge 31, 3) := by decide +kernel
theorem dX5_addWindow_11 : decode cX5_addWindow 11 = .ok (.aload_n 0, 1) := by decide +kernel
theorem dX5_addWindow_12 : decode cX5_addWindow 12 = .ok (.getfield 11, 3) := by decide +kernel
theorem dX5_addWindow_15 : decode cX5_addWindow 15 = .ok (.iload_n 2, 1) := by decide +kernel
theorem dX5_addWindow_16 : decode cX5_addWindow 16 = .ok (.aload_n 1, 1) := by decide +kernel
theorem dX5_addWindow_17 : decode cX5_addWindow 17 = .ok (.aastore, 1) := by decide +kernel
theorem dX5_addWindow_18 : decode cX5_addWindow 18 = .ok (.aload_n 0, 1) := by decide +kernel
theorem dX5_addWindow_19 : decode cX5_addWindow 19 = .ok (.iload_n 2, 1) := by decide +kernel
theorem dX5_addWindow_20 : decode cX5_addWindow 20 = .ok (.iconst 1, 1) := by decide +kernel
theorem dX5_addWindow_21 : decode cX5_addWindow 21 = .ok (.iadd, 1) := by decide +kernel
theorem dX5_addWindow_22 : decode cX5_addWindow 22 = .ok (.putfield 45, 3) := by decide +kernel
theorem dX5_addWindow_25 : decode cX5_addWindow 25 = .ok (.aload_n 0, 1) := by decide +kernel
theorem dX5_addWindow_26 : decode cX5_addWindow 26 = .ok (.getfield 20, 3) := by decide +kernel
theorem dX5_addWindow_29 : decode cX5_addWindow 29 = .ok (.aload_n 1, 1) := by decide +kernel
theorem dX5_addWindow_30 : decode cX5_addWindow 30 = .ok (.invokevirtual 49, 3) := by decide +kernel
theorem dX5_addWindow_33 : decode cX5_addWindow 33 = .ok (.pop, 1) := by decide +kernel
theorem dX5_addWindow_34 : decode cX5_addWindow 34 = .ok (.aload_n 0, 1) := by decide +kernel
theorem dX5_addWindow_35 : decode cX5_addWindow 35 = .ok (.invokevirtual 53, 3) := by decide +kernel
theorem dX5_addWindow_38 : decode cX5_addWindow 38 = .ok (.pop, 1) := by decide +kernel
theorem dX5_addWindow_39 : decode cX5_addWindow 39 = .ok (.iload_n 2, 1) := by decide +kernel
theorem dX5_addWindow_40 : decode cX5_addWindow 40 = .ok (.ireturn, 1) := by decide +kernel
theorem dX5_takeFromPile_0 : decode cX5_takeFromPile 0 = .ok (.aload_n 0, 1) := by decide +kernel
theorem dX5_takeFromPile_1 : decode cX5_takeFromPile 1 = .ok (.getfield 20, 3) := by decide +kernel
theorem dX5_takeFromPile_4 : decode cX5_takeFromPile 4 = .ok (.invokevirtual 57, 3) := by decide +kernel
theorem dX5_takeFromPile_7 : decode cX5_takeFromPile 7 = .ok (.iconst 1, 1) := by decide +kernel
theorem dX5_takeFromPile_8 : decode cX5_takeFromPile 8 = .ok (.isub, 1) := by decide +kernel
theorem dX5_takeFromPile_9 : decode cX5_takeFromPile 9 = .ok (.istore_n 2, 1) := by decide +kernel
theorem dX5_takeFromPile_10 : decode cX5_takeFromPile 10 = .ok (.iload_n 2, 1) := by decide +kernel
theorem dX5_takeFromPile_11 : decode cX5_takeFromPile 11 = .ok (.ifCond .lt 30, 3) := by decide +kernel
theorem dX5_takeFromPile_14 : decode cX5_takeFromPile 14 = .ok (.aload_n 0, 1) := by decide +kernel
theorem dX5_takeFromPile_15 : decode cX5_takeFromPile 15 = .ok (.getfield 20, 3) := by decide +kernel
theorem dX5_takeFromPile_18 : decode cX5_takeFromPile 18 = .ok (.iload_n 2, 1) := by decide +kernel
theorem dX5_takeFromPile_19 : decode cX5_takeFromPile 19 = .ok (.invokevirtual 60, 3) := by decide +kernel
theorem dX5_takeFromPile_22 : decode cX5_takeFromPile 22 = .ok (.aload_n 1, 1) := by decide +kernel
theorem dX5_takeFromPile_23 : decode cX5_takeFromPile 23 = .ok (.if_acmp .ne 12, 3) := by decide +kernel
theorem dX5_takeFromPile_26 : decode cX5_takeFromPile 26 = .ok (.aload_n 0, 1) := by decide +kernel
theorem dX5_takeFromPile_27 : decode cX5_takeFromPile 27 = .ok (.getfield 20, 3) := by decide +kernel
theorem dX5_takeFromPile_30 : decode cX5_takeFromPile 30 = .ok (.iload_n 2, 1) := by decide +kernel
theorem dX5_takeFromPile_31 : decode cX5_takeFromPile 31 = .ok (.invokevirtual 64, 3) := by decide +kernel
theorem dX5_takeFromPile_34 : decode cX5_takeFromPile 34 = .ok (.pop, 1) := by decide +kernel
theorem dX5_takeFromPile_35 : decode cX5_takeFromPile 35 = .ok (.iinc 2 (-1), 3) := by decide +kernel
theorem dX5_takeFromPile_38 : decode cX5_takeFromPile 38 = .ok (.goto (-28), 3) := by decide +kernel
theorem dX5_takeFromPile_41 : decode cX5_takeFromPile 41 = .ok (.return_, 1) := by decide +kernel
theorem dX5_isOnTop_0 : decode cX5_isOnTop 0 = .ok (.aload_n 0, 1) := by decide +kernel
theorem dX5_isOnTop_1 : decode cX5_isOnTop 1 = .ok (.getfield 20, 3) := by decide +kernel
theorem dX5_isOnTop_4 : decode cX5_isOnTop 4 = .ok (.invokevirtual 57, 3) := by decide +kernel
theorem dX5_isOnTop_7 : decode cX5_isOnTop 7 = .ok (.istore_n 2, 1) := by decide +kernel
theorem dX5_isOnTop_8 : decode cX5_isOnTop 8 = .ok (.iload_n 2, 1) := by decide +kernel
theorem dX5_isOnTop_9 : decode cX5_isOnTop 9 = .ok (.ifCond .le 21, 3) := by decide +kernel
theorem dX5_isOnTop_12 : decode cX5_isOnTop 12 = .ok (.aload_n 0, 1) := by decide +kernel
theorem dX5_isOnTop_13 : decode cX5_isOnTop 13 = .ok (.getfield 20, 3) := by decide +kernel
theorem dX5_isOnTop_16 : decode cX5_isOnTop 16 = .ok (.iload_n 2, 1) := by decide +kernel
theorem dX5_isOnTop_17 : decode cX5_isOnTop 17 = .ok (.iconst 1, 1) := by decide +kernel
theorem dX5_isOnTop_18 : decode cX5_isOnTop 18 = .ok (.isub, 1) := by decide +kernel
theorem dX5_isOnTop_19 : decode cX5_isOnTop 19 = .ok (.invokevirtual 60, 3) := by decide +kernel
theorem dX5_isOnTop_22 : decode cX5_isOnTop 22 = .ok (.aload_n 1, 1) := by decide +kernel
theorem dX5_isOnTop_23 : decode cX5_isOnTop 23 = .ok (.if_acmp .ne 7, 3) := by decide +kernel
theorem dX5_isOnTop_26 : decode cX5_isOnTop 26 = .ok (.iconst 1, 1) := by decide +kernel
theorem dX5_isOnTop_27 : decode cX5_isOnTop 27 = .ok (.goto 4, 3) := by decide +kernel
theorem dX5_isOnTop_30 : decode cX5_isOnTop 30 = .ok (.iconst 0, 1) := by decide +kernel
theorem dX5_isOnTop_31 : decode cX5_isOnTop 31 = .ok (.ireturn, 1) := by decide +kernel
theorem dX5_topShown_0 : decode cX5_topShown 0 = .ok (.aload_n 0, 1) := by decide +kernel
theorem dX5_topShown_1 : decode cX5_topShown 1 = .ok (.getfield 20, 3) := by decide +kernel
theorem dX5_topShown_4 : decode cX5_topShown 4 = .ok (.invokevirtual 57, 3) := by decide +kernel
theorem dX5_topShown_7 : decode cX5_topShown 7 = .ok (.iconst 1, 1) := by decide +kernel
theorem dX5_topShown_8 : decode cX5_topShown 8 = .ok (.isub, 1) := by decide +kernel
theorem dX5_topShown_9 : decode cX5_topShown 9 = .ok (.istore_n 1, 1) := by decide +kernel
theorem dX5_topShown_10 : decode cX5_topShown 10 = .ok (.iload_n 1, 1) := by decide +kernel
theorem dX5_topShown_11 : decode cX5_topShown 11 = .ok (.ifCond .lt 30, 3) := by decide +kernel
theorem dX5_topShown_14 : decode cX5_topShown 14 = .ok (.aload_n 0, 1) := by decide +kernel
theorem dX5_topShown_15 : decode cX5_topShown 15 = .ok (.getfield 20, 3) := by decide +kernel
theorem dX5_topShown_18 : decode cX5_topShown 18 = .ok (.iload_n 1, 1) := by decide +kernel
theorem dX5_topShown_19 : decode cX5_topShown 19 = .ok (.invokevirtual 60, 3) := by decide +kernel
theorem dX5_topShown_22 : decode cX5_topShown 22 = .ok (.checkcast 9, 3) := by decide +kernel
theorem dX5_topShown_25 : decode cX5_topShown 25 = .ok (.astore_n 2, 1) := by decide +kernel
theorem dX5_topShown_26 : decode cX5_topShown 26 = .ok (.aload_n 2, 1) := by decide +kernel
theorem dX5_topShown_27 : decode cX5_topShown 27 = .ok (.getfield 67, 3) := by decide +kernel
theorem dX5_topShown_30 : decode cX5_topShown 30 = .ok (.ifCond .eq 5, 3) := by decide +kernel
theorem dX5_topShown_33 : decode cX5_topShown 33 = .ok (.aload_n 2, 1) := by decide +kernel
theorem dX5_topShown_34 : decode cX5_topShown 34 = .ok (.areturn, 1) := by decide +kernel
theorem dX5_topShown_35 : decode cX5_topShown 35 = .ok (.iinc 1 (-1), 3) := by decide +kernel
theorem dX5_topShown_38 : decode cX5_topShown 38 = .ok (.goto (-28), 3) := by decide +kernel
theorem dX5_topShown_41 : decode cX5_topShown 41 = .ok (.aconst_null, 1) := by decide +kernel
theorem dX5_topShown_42 : decode cX5_topShown 42 = .ok (.areturn, 1) := by decide +kernel
theorem dX5_topShownAt_0 : decode cX5_topShownAt 0 = .ok (.aload_n 0, 1) := by decide +kernel
theorem dX5_topShownAt_1 : decode cX5_topShownAt 1 = .ok (.getfield 20, 3) := by decide +kernel
theorem dX5_topShownAt_4 : decode cX5_topShownAt 4 = .ok (.invokevirtual 57, 3) := by decide +kernel
theorem dX5_topShownAt_7 : decode cX5_topShownAt 7 = .ok (.iconst 1, 1) := by decide +kernel
theorem dX5_topShownAt_8 : decode cX5_topShownAt 8 = .ok (.isub, 1) := by decide +kernel
theorem dX5_topShownAt_9 : decode cX5_topShownAt 9 = .ok (.istore_n 3, 1) := by decide +kernel
theorem dX5_topShownAt_10 : decode cX5_topShownAt 10 = .ok (.iload_n 3, 1) := by decide +kernel
theorem dX5_topShownAt_11 : decode cX5_topShownAt 11 = .ok (.ifCond .lt 43, 3) := by decide +kernel
theorem dX5_topShownAt_14 : decode cX5_topShownAt 14 = .ok (.aload_n 0, 1) := by decide +kernel
theorem dX5_topShownAt_15 : decode cX5_topShownAt 15 = .ok (.getfield 20, 3) := by decide +kernel
theorem dX5_topShownAt_18 : decode cX5_topShownAt 18 = .ok (.iload_n 3, 1) := by decide +kernel
theorem dX5_topShownAt_19 : decode cX5_topShownAt 19 = .ok (.invokevirtual 60, 3) := by decide +kernel
theorem dX5_topShownAt_22 : decode cX5_topShownAt 22 = .ok (.checkcast 9, 3) := by decide +kernel
theorem dX5_topShownAt_25 : decode cX5_topShownAt 25 = .ok (.astore 4, 2) := by decide +kernel
theorem dX5_topShownAt_27 : decode cX5_topShownAt 27 = .ok (.aload 4, 2) := by decide +kernel
theorem dX5_topShownAt_29 : decode cX5_topShownAt 29 = .ok (.getfield 67, 3) := by decide +kernel
theorem dX5_topShownAt_32 : decode cX5_topShownAt 32 = .ok (.ifCond .eq 16, 3) := by decide +kernel
theorem dX5_topShownAt_35 : decode cX5_topShownAt 35 = .ok (.aload 4, 2) := by decide +kernel
theorem dX5_topShownAt_37 : decode cX5_topShownAt 37 = .ok (.iload_n 1, 1) := by decide +kernel
theorem dX5_topShownAt_38 : decode cX5_topShownAt 38 = .ok (.iload_n 2, 1) := by decide +kernel
theorem dX5_topShownAt_39 : decode cX5_topShownAt 39 = .ok (.invokevirtual 71, 3) := by decide +kernel
theorem dX5_topShownAt_42 : decode cX5_topShownAt 42 = .ok (.ifCond .eq 6, 3) := by decide +kernel
theorem dX5_topShownAt_45 : decode cX5_topShownAt 45 = .ok (.aload 4, 2) := by decide +kernel
theorem dX5_topShownAt_47 : decode cX5_topShownAt 47 = .ok (.areturn, 1) := by decide +kernel
theorem dX5_topShownAt_48 : decode cX5_topShownAt 48 = .ok (.iinc 3 (-1), 3) := by decide +kernel
theorem dX5_topShownAt_51 : decode cX5_topShownAt 51 = .ok (.goto (-41), 3) := by decide +kernel
theorem dX5_topShownAt_54 : decode cX5_topShownAt 54 = .ok (.aconst_null, 1) := by decide +kernel
theorem dX5_topShownAt_55 : decode cX5_topShownAt 55 = .ok (.areturn, 1) := by decide +kernel
theorem dX5_colourOfWindows_0 : decode cX5_colourOfWindows 0 = .ok (.iload_n 1, 1) := by decide +kernel
theorem dX5_colourOfWindows_1 : decode cX5_colourOfWindows 1 = .ok (.bipush 12, 2) := by decide +kernel
theorem dX5_colourOfWindows_3 : decode cX5_colourOfWindows 3 = .ok (.irem, 1) := by decide +kernel
theorem dX5_colourOfWindows_4 : decode cX5_colourOfWindows 4 = .ok (.istore_n 2, 1) := by decide +kernel
theorem dX5_colourOfWindows_5 : decode cX5_colourOfWindows 5 = .ok (.iload_n 1, 1) := by decide +kernel
theorem dX5_colourOfWindows_6 : decode cX5_colourOfWindows 6 = .ok (.bipush 12, 2) := by decide +kernel
theorem dX5_colourOfWindows_8 : decode cX5_colourOfWindows 8 = .ok (.idiv, 1) := by decide +kernel
theorem dX5_colourOfWindows_9 : decode cX5_colourOfWindows 9 = .ok (.istore_n 3, 1) := by decide +kernel
theorem dX5_colourOfWindows_10 : decode cX5_colourOfWindows 10 = .ok (.aload_n 0, 1) := by decide +kernel
theorem dX5_colourOfWindows_11 : decode cX5_colourOfWindows 11 = .ok (.iload_n 2, 1) := by decide +kernel
theorem dX5_colourOfWindows_12 : decode cX5_colourOfWindows 12 = .ok (.iload_n 3, 1) := by decide +kernel
theorem dX5_colourOfWindows_13 : decode cX5_colourOfWindows 13 = .ok (.invokevirtual 75, 3) := by decide +kernel
theorem dX5_colourOfWindows_16 : decode cX5_colourOfWindows 16 = .ok (.astore 4, 2) := by decide +kernel
theorem dX5_colourOfWindows_18 : decode cX5_colourOfWindows 18 = .ok (.aload 4, 2) := by decide +kernel
theorem dX5_colourOfWindows_20 : decode cX5_colourOfWindows 20 = .ok (.ifnonnull 7, 3) := by decide +kernel
theorem dX5_colourOfWindows_23 : decode cX5_colourOfWindows 23 = .ok (.iconst 0, 1) := by decide +kernel
theorem dX5_colourOfWindows_24 : decode cX5_colourOfWindows 24 = .ok (.goto 10, 3) := by decide +kernel
theorem dX5_colourOfWindows_27 : decode cX5_colourOfWindows 27 = .ok (.aload 4, 2) := by decide +kernel
theorem dX5_colourOfWindows_29 : decode cX5_colourOfWindows 29 = .ok (.iload_n 2, 1) := by decide +kernel
theorem dX5_colourOfWindows_30 : decode cX5_colourOfWindows 30 = .ok (.iload_n 3, 1) := by decide +kernel
theorem dX5_colourOfWindows_31 : decode cX5_colourOfWindows 31 = .ok (.invokevirtual 79, 3) := by decide +kernel
theorem dX5_colourOfWindows_34 : decode cX5_colourOfWindows 34 = .ok (.ireturn, 1) := by decide +kernel
theorem dX5_repaint_0 : decode cX5_repaint 0 = .ok (.iconst 0, 1) := by decide +kernel
theorem dX5_repaint_1 : decode cX5_repaint 1 = .ok (.istore_n 1, 1) := by decide +kernel
theorem dX5_repaint_2 : decode cX5_repaint 2 = .ok (.iconst 0, 1) := by decide +kernel
theorem dX5_repaint_3 : decode cX5_repaint 3 = .ok (.istore_n 2, 1) := by decide +kernel
theorem dX5_repaint_4 : decode cX5_repaint 4 = .ok (.iload_n 2, 1) := by decide +kernel
theorem dX5_repaint_5 : decode cX5_repaint 5 = .ok (.bipush 96, 2) := by decide +kernel
theorem dX5_repaint_7 : decode cX5_repaint 7 = .ok (.if_icmp .ge 35, 3) := by decide +kernel
theorem dX5_repaint_10 : decode cX5_repaint 10 = .ok (.aload_n 0, 1) := by decide +kernel
theorem dX5_repaint_11 : decode cX5_repaint 11 = .ok (.iload_n 2, 1) := by decide +kernel
theorem dX5_repaint_12 : decode cX5_repaint 12 = .ok (.invokevirtual 83, 3) := by decide +kernel
theorem dX5_repaint_15 : decode cX5_repaint 15 = .ok (.istore_n 3, 1) := by decide +kernel
theorem dX5_repaint_16 : decode cX5_repaint 16 = .ok (.aload_n 0, 1) := by decide +kernel
theorem dX5_repaint_17 : decode cX5_repaint 17 = .ok (.getfield 27, 3) := by decide +kernel
theorem dX5_repaint_20 : decode cX5_repaint 20 = .ok (.iload_n 2, 1) := by decide +kernel
theorem dX5_repaint_21 : decode cX5_repaint 21 = .ok (.iaload, 1) := by decide +kernel
theorem dX5_repaint_22 : decode cX5_repaint 22 = .ok (.iload_n 3, 1) := by decide +kernel
theorem dX5_repaint_23 : decode cX5_repaint 23 = .ok (.if_icmp .eq 13, 3) := by decide +kernel
theorem dX5_repaint_26 : decode cX5_repaint 26 = .ok (.aload_n 0, 1) := by decide +kernel
theorem dX5_repaint_27 : decode cX5_repaint 27 = .ok (.getfield 27, 3) := by decide +kernel
theorem dX5_repaint_30 : decode cX5_repaint 30 = .ok (.iload_n 2, 1) := by decide +kernel
theorem dX5_repaint_31 : decode cX5_repaint 31 = .ok (.iload_n 3, 1) := by decide +kernel
theorem dX5_repaint_32 : decode cX5_repaint 32 = .ok (.iastore, 1) := by decide +kernel
theorem dX5_repaint_33 : decode cX5_repaint 33 = .ok (.iinc 1 1, 3) := by decide +kernel
theorem dX5_repaint_36 : decode cX5_repaint 36 = .ok (.iinc 2 1, 3) := by decide +kernel
theorem dX5_repaint_39 : decode cX5_repaint 39 = .ok (.goto (-35), 3) := by decide +kernel
theorem dX5_repaint_42 : decode cX5_repaint 42 = .ok (.iload_n 1, 1) := by decide +kernel
theorem dX5_repaint_43 : decode cX5_repaint 43 = .ok (.ireturn, 1) := by decide +kernel
theorem dX5_isPainted_0 : decode cX5_isPainted 0 = .ok (.iconst 0, 1) := by decide +kernel
theorem dX5_isPainted_1 : decode cX5_isPainted 1 = .ok (.istore_n 1, 1) := by decide +kernel
theorem dX5_isPainted_2 : decode cX5_isPainted 2 = .ok (.iload_n 1, 1) := by decide +kernel
theorem dX5_isPainted_3 : decode cX5_isPainted 3 = .ok (.bipush 96, 2) := by decide +kernel
theorem dX5_isPainted_5 : decode cX5_isPainted 5 = .ok (.if_icmp .ge 25, 3) := by decide +kernel
theorem dX5_isPainted_8 : decode cX5_isPainted 8 = .ok (.aload_n 0, 1) := by decide +kernel
theorem dX5_isPainted_9 : decode cX5_isPainted 9 = .ok (.getfield 27, 3) := by decide +kernel
theorem dX5_isPainted_12 : decode cX5_isPainted 12 = .ok (.iload_n 1, 1) := by decide +kernel
theorem dX5_isPainted_13 : decode cX5_isPainted 13 = .ok (.iaload, 1) := by decide +kernel
theorem dX5_isPainted_14 : decode cX5_isPainted 14 = .ok (.aload_n 0, 1) := by decide +kernel
theorem dX5_isPainted_15 : decode cX5_isPainted 15 = .ok (.iload_n 1, 1) := by decide +kernel
theorem dX5_isPainted_16 : decode cX5_isPainted 16 = .ok (.invokevirtual 83, 3) := by decide +kernel
theorem dX5_isPainted_19 : decode cX5_isPainted 19 = .ok (.if_icmp .eq 5, 3) := by decide +kernel
theorem dX5_isPainted_22 : decode cX5_isPainted 22 = .ok (.iconst 0, 1) := by decide +kernel
theorem dX5_isPainted_23 : decode cX5_isPainted 23 = .ok (.ireturn, 1) := by decide +kernel
theorem dX5_isPainted_24 : decode cX5_isPainted 24 = .ok (.iinc 1 1, 3) := by decide +kernel
theorem dX5_isPainted_27 : decode cX5_isPainted 27 = .ok (.goto (-25), 3) := by decide +kernel
theorem dX5_isPainted_30 : decode cX5_isPainted 30 = .ok (.iconst 1, 1) := by decide +kernel
theorem dX5_isPainted_31 : decode cX5_isPainted 31 = .ok (.ireturn, 1) := by decide +kernel
theorem dX5_isTrue_0 : decode cX5_isTrue 0 = .ok (.aload_n 0, 1) := by decide +kernel
theorem dX5_isTrue_1 : decode cX5_isTrue 1 = .ok (.invokevirtual 87, 3) := by decide +kernel
theorem dX5_isTrue_4 : decode cX5_isTrue 4 = .ok (.ifCond .eq 24, 3) := by decide +kernel
theorem dX5_isTrue_7 : decode cX5_isTrue 7 = .ok (.aload_n 0, 1) := by decide +kernel
theorem dX5_isTrue_8 : decode cX5_isTrue 8 = .ok (.getfield 91, 3) := by decide +kernel
theorem dX5_isTrue_11 : decode cX5_isTrue 11 = .ok (.ifnull 13, 3) := by decide +kernel
theorem dX5_isTrue_14 : decode cX5_isTrue 14 = .ok (.aload_n 0, 1) := by decide +kernel
theorem dX5_isTrue_15 : decode cX5_isTrue 15 = .ok (.getfield 91, 3) := by decide +kernel
theorem dX5_isTrue_18 : decode cX5_isTrue 18 = .ok (.invokevirtual 95, 3) := by decide +kernel
theorem dX5_isTrue_21 : decode cX5_isTrue 21 = .ok (.ifCond .eq 7, 3) := by decide +kernel
theorem dX5_isTrue_24 : decode cX5_isTrue 24 = .ok (.iconst 1, 1) := by decide +kernel
theorem dX5_isTrue_25 : decode cX5_isTrue 25 = .ok (.goto 4, 3) := by decide +kernel
theorem dX5_isTrue_28 : decode cX5_isTrue 28 = .ok (.iconst 0, 1) := by decide +kernel
theorem dX5_isTrue_29 : decode cX5_isTrue 29 = .ok (.ireturn, 1) := by decide +kernel
theorem dX5_countKeysOf_0 : decode cX5_countKeysOf 0 = .ok (.iconst 0, 1) := by decide +kernel
theorem dX5_countKeysOf_1 : decode cX5_countKeysOf 1 = .ok (.istore_n 2, 1) := by decide +kernel
theorem dX5_countKeysOf_2 : decode cX5_countKeysOf 2 = .ok (.iconst 0, 1) := by decide +kernel
theorem dX5_countKeysOf_3 : decode cX5_countKeysOf 3 = .ok (.istore_n 3, 1) := by decide +kernel
theorem dX5_countKeysOf_4 : decode cX5_countKeysOf 4 = .ok (.iload_n 3, 1) := by decide +kernel
theorem dX5_countKeysOf_5 : decode cX5_countKeysOf 5 = .ok (.aload_n 0, 1) := by decide +kernel
theorem dX5_countKeysOf_6 : decode cX5_countKeysOf 6 = .ok (.getfield 24, 3) := by decide +kernel
theorem dX5_countKeysOf_9 : decode cX5_countKeysOf 9 = .ok (.invokevirtual 57, 3) := by decide +kernel
theorem dX5_countKeysOf_12 : decode cX5_countKeysOf 12 = .ok (.if_icmp .ge 30, 3) := by decide +kernel
theorem dX5_countKeysOf_15 : decode cX5_countKeysOf 15 = .ok (.aload_n 0, 1) := by decide +kernel
theorem dX5_countKeysOf_16 : decode cX5_countKeysOf 16 = .ok (.getfield 24, 3) := by decide +kernel
theorem dX5_countKeysOf_19 : decode cX5_countKeysOf 19 = .ok (.iload_n 3, 1) := by decide +kernel
theorem dX5_countKeysOf_20 : decode cX5_countKeysOf 20 = .ok (.invokevirtual 60, 3) := by decide +kernel
theorem dX5_countKeysOf_23 : decode cX5_countKeysOf 23 = .ok (.checkcast 100, 3) := by decide +kernel
theorem dX5_countKeysOf_26 : decode cX5_countKeysOf 26 = .ok (.getfield 102, 3) := by decide +kernel
theorem dX5_countKeysOf_29 : decode cX5_countKeysOf 29 = .ok (.aload_n 1, 1) := by decide +kernel
theorem dX5_countKeysOf_30 : decode cX5_countKeysOf 30 = .ok (.if_acmp .ne 6, 3) := by decide +kernel
theorem dX5_countKeysOf_33 : decode cX5_countKeysOf 33 = .ok (.iinc 2 1, 3) := by decide +kernel
theorem dX5_countKeysOf_36 : decode cX5_countKeysOf 36 = .ok (.iinc 3 1, 3) := by decide +kernel
theorem dX5_countKeysOf_39 : decode cX5_countKeysOf 39 = .ok (.goto (-35), 3) := by decide +kernel
theorem dX5_countKeysOf_42 : decode cX5_countKeysOf 42 = .ok (.iload_n 2, 1) := by decide +kernel
theorem dX5_countKeysOf_43 : decode cX5_countKeysOf 43 = .ok (.ireturn, 1) := by decide +kernel
theorem dX5_countKeysBy_0 : decode cX5_countKeysBy 0 = .ok (.iconst 0, 1) := by decide +kernel
theorem dX5_countKeysBy_1 : decode cX5_countKeysBy 1 = .ok (.istore_n 2, 1) := by decide +kernel
theorem dX5_countKeysBy_2 : decode cX5_countKeysBy 2 = .ok (.iconst 0, 1) := by decide +kernel
theorem dX5_countKeysBy_3 : decode cX5_countKeysBy 3 = .ok (.istore_n 3, 1) := by decide +kernel
theorem dX5_countKeysBy_4 : decode cX5_countKeysBy 4 = .ok (.iload_n 3, 1) := by decide +kernel
theorem dX5_countKeysBy_5 : decode cX5_countKeysBy 5 = .ok (.aload_n 0, 1) := by decide +kernel
theorem dX5_countKeysBy_6 : decode cX5_countKeysBy 6 = .ok (.getfield 24, 3) := by decide +kernel
theorem dX5_countKeysBy_9 : decode cX5_countKeysBy 9 = .ok (.invokevirtual 57, 3) := by decide +kernel
theorem dX5_countKeysBy_12 : decode cX5_countKeysBy 12 = .ok (.if_icmp .ge 30, 3) := by decide +kernel
theorem dX5_countKeysBy_15 : decode cX5_countKeysBy 15 = .ok (.aload_n 0, 1) := by decide +kernel
theorem dX5_countKeysBy_16 : decode cX5_countKeysBy 16 = .ok (.getfield 24, 3) := by decide +kernel
theorem dX5_countKeysBy_19 : decode cX5_countKeysBy 19 = .ok (.iload_n 3, 1) := by decide +kernel
theorem dX5_countKeysBy_20 : decode cX5_countKeysBy 20 = .ok (.invokevirtual 60, 3) := by decide +kernel
theorem dX5_countKeysBy_23 : decode cX5_countKeysBy 23 = .ok (.checkcast 100, 3) := by decide +kernel
theorem dX5_countKeysBy_26 : decode cX5_countKeysBy 26 = .ok (.getfield 106, 3) := by decide +kernel
theorem dX5_countKeysBy_29 : decode cX5_countKeysBy 29 = .ok (.aload_n 1, 1) := by decide +kernel
theorem dX5_countKeysBy_30 : decode cX5_countKeysBy 30 = .ok (.if_acmp .ne 6, 3) := by decide +kernel
theorem dX5_countKeysBy_33 : decode cX5_countKeysBy 33 = .ok (.iinc 2 1, 3) := by decide +kernel
theorem dX5_countKeysBy_36 : decode cX5_countKeysBy 36 = .ok (.iinc 3 1, 3) := by decide +kernel
theorem dX5_countKeysBy_39 : decode cX5_countKeysBy 39 = .ok (.goto (-35), 3) := by decide +kernel
theorem dX5_countKeysBy_42 : decode cX5_countKeysBy 42 = .ok (.iload_n 2, 1) := by decide +kernel
theorem dX5_countKeysBy_43 : decode cX5_countKeysBy 43 = .ok (.ireturn, 1) := by decide +kernel
theorem dX5_lastGuessAt_0 : decode cX5_lastGuessAt 0 = .ok (.aload_n 0, 1) := by decide +kernel
theorem dX5_lastGuessAt_1 : decode cX5_lastGuessAt 1 = .ok (.getfield 24, 3) := by decide +kernel
theorem dX5_lastGuessAt_4 : decode cX5_lastGuessAt 4 = .ok (.invokevirtual 57, 3) := by decide +kernel
theorem dX5_lastGuessAt_7 : decode cX5_lastGuessAt 7 = .ok (.iconst 1, 1) := by decide +kernel
theorem dX5_lastGuessAt_8 : decode cX5_lastGuessAt 8 = .ok (.isub, 1) := by decide +kernel
theorem dX5_lastGuessAt_9 : decode cX5_lastGuessAt 9 = .ok (.istore_n 3, 1) := by decide +kernel
theorem dX5_lastGuessAt_10 : decode cX5_lastGuessAt 10 = .ok (.iload_n 3, 1) := by decide +kernel
theorem dX5_lastGuessAt_11 : decode cX5_lastGuessAt 11 = .ok (.ifCond .lt 51, 3) := by decide +kernel
theorem dX5_lastGuessAt_14 : decode cX5_lastGuessAt 14 = .ok (.aload_n 0, 1) := by decide +kernel
theorem dX5_lastGuessAt_15 : decode cX5_lastGuessAt 15 = .ok (.getfield 24, 3) := by decide +kernel
theorem dX5_lastGuessAt_18 : decode cX5_lastGuessAt 18 = .ok (.iload_n 3, 1) := by decide +kernel
theorem dX5_lastGuessAt_19 : decode cX5_lastGuessAt 19 = .ok (.invokevirtual 60, 3) := by decide +kernel
theorem dX5_lastGuessAt_22 : decode cX5_lastGuessAt 22 = .ok (.checkcast 100, 3) := by decide +kernel
theorem dX5_lastGuessAt_25 : decode cX5_lastGuessAt 25 = .ok (.astore 4, 2) := by decide +kernel
theorem dX5_lastGuessAt_27 : decode cX5_lastGuessAt 27 = .ok (.aload 4, 2) := by decide +kernel
theorem dX5_lastGuessAt_29 : decode cX5_lastGuessAt 29 = .ok (.getfield 106, 3) := by decide +kernel
theorem dX5_lastGuessAt_32 : decode cX5_lastGuessAt 32 = .ok (.aload_n 1, 1) := by decide +kernel
theorem dX5_lastGuessAt_33 : decode cX5_lastGuessAt 33 = .ok (.if_acmp .ne 23, 3) := by decide +kernel
theorem dX5_lastGuessAt_36 : decode cX5_lastGuessAt 36 = .ok (.aload 4, 2) := by decide +kernel
theorem dX5_lastGuessAt_38 : decode cX5_lastGuessAt 38 = .ok (.getfield 102, 3) := by decide +kernel
theorem dX5_lastGuessAt_41 : decode cX5_lastGuessAt 41 = .ok (.aload 4, 2) := by decide +kernel
theorem dX5_lastGuessAt_43 : decode cX5_lastGuessAt 43 = .ok (.getfield 110, 3) := by decide +kernel
theorem dX5_lastGuessAt_46 : decode cX5_lastGuessAt 46 = .ok (.invokevirtual 113, 3) := by decide +kernel
theorem dX5_lastGuessAt_49 : decode cX5_lastGuessAt 49 = .ok (.iload_n 2, 1) := by decide +kernel
theorem dX5_lastGuessAt_50 : decode cX5_lastGuessAt 50 = .ok (.if_icmp .ne 6, 3) := by decide +kernel
theorem dX5_lastGuessAt_53 : decode cX5_lastGuessAt 53 = .ok (.aload 4, 2) := by decide +kernel
theorem dX5_lastGuessAt_55 : decode cX5_lastGuessAt 55 = .ok (.areturn, 1) := by decide +kernel
theorem dX5_lastGuessAt_56 : decode cX5_lastGuessAt 56 = .ok (.iinc 3 (-1), 3) := by decide +kernel
theorem dX5_lastGuessAt_59 : decode cX5_lastGuessAt 59 = .ok (.goto (-49), 3) := by decide +kernel
theorem dX5_lastGuessAt_62 : decode cX5_lastGuessAt 62 = .ok (.aconst_null, 1) := by decide +kernel
theorem dX5_lastGuessAt_63 : decode cX5_lastGuessAt 63 = .ok (.areturn, 1) := by decide +kernel
theorem dX5_advanceMove_0 : decode cX5_advanceMove 0 = .ok (.aload_n 0, 1) := by decide +kernel
theorem dX5_advanceMove_1 : decode cX5_advanceMove 1 = .ok (.aload_n 0, 1) := by decide +kernel
theorem dX5_advanceMove_2 : decode cX5_advanceMove 2 = .ok (.getfield 41, 3) := by decide +kernel
theorem dX5_advanceMove_5 : decode cX5_advanceMove 5 = .ok (.getfield 116, 3) := by decide +kernel
theorem dX5_advanceMove_8 : decode cX5_advanceMove 8 = .ok (.ifCond .eq 21, 3) := by decide +kernel
theorem dX5_advanceMove_11 : decode cX5_advanceMove 11 = .ok (.aload_n 0, 1) := by decide +kernel
theorem dX5_advanceMove_12 : decode cX5_advanceMove 12 = .ok (.getfield 41, 3) := by decide +kernel
theorem dX5_advanceMove_15 : decode cX5_advanceMove 15 = .ok (.aload_n 0, 1) := by decide +kernel
theorem dX5_advanceMove_16 : decode cX5_advanceMove 16 = .ok (.getfield 27, 3) := by decide +kernel
theorem dX5_advanceMove_19 : decode cX5_advanceMove 19 = .ok (.invokevirtual 119, 3) := by decide +kernel
theorem dX5_advanceMove_22 : decode cX5_advanceMove 22 = .ok (.ifCond .eq 7, 3) := by decide +kernel
theorem dX5_advanceMove_25 : decode cX5_advanceMove 25 = .ok (.iconst 1, 1) := by decide +kernel
theorem dX5_advanceMove_26 : decode cX5_advanceMove 26 = .ok (.goto 4, 3) := by decide +kernel
theorem dX5_advanceMove_29 : decode cX5_advanceMove 29 = .ok (.iconst 0, 1) := by decide +kernel
theorem dX5_advanceMove_30 : decode cX5_advanceMove 30 = .ok (.putfield 123, 3) := by decide +kernel
theorem dX5_advanceMove_33 : decode cX5_advanceMove 33 = .ok (.return_, 1) := by decide +kernel
theorem dX5_doKeys_0 : decode cX5_doKeys 0 = .ok (.aload_n 0, 1) := by decide +kernel
theorem dX5_doKeys_1 : decode cX5_doKeys 1 = .ok (.getfield 123, 3) := by decide +kernel
theorem dX5_doKeys_4 : decode cX5_doKeys 4 = .ok (.ifCond .eq 4, 3) := by decide +kernel
theorem dX5_doKeys_7 : decode cX5_doKeys 7 = .ok (.return_, 1) := by decide +kernel
theorem dX5_doKeys_8 : decode cX5_doKeys 8 = .ok (.iconst 0, 1) := by decide +kernel
theorem dX5_doKeys_9 : decode cX5_doKeys 9 = .ok (.istore_n 1, 1) := by decide +kernel
theorem dX5_doKeys_10 : decode cX5_doKeys 10 = .ok (.iload_n 1, 1) := by decide +kernel
theorem dX5_doKeys_11 : decode cX5_doKeys 11 = .ok (.aload_n 0, 1) := by decide +kernel
theorem dX5_doKeys_12 : decode cX5_doKeys 12 = .ok (.getfield 24, 3) := by decide +kernel
theorem dX5_doKeys_15 : decode cX5_doKeys 15 = .ok (.invokevirtual 57, 3) := by decide +kernel
theorem dX5_doKeys_18 : decode cX5_doKeys 18 = .ok (.if_icmp .ge 59, 3) := by decide +kernel
theorem dX5_doKeys_21 : decode cX5_doKeys 21 = .ok (.aload_n 0, 1) := by decide +kernel
theorem dX5_doKeys_22 : decode cX5_doKeys 22 = .ok (.getfield 24, 3) := by decide +kernel
theorem dX5_doKeys_25 : decode cX5_doKeys 25 = .ok (.iload_n 1, 1) := by decide +kernel
theorem dX5_doKeys_26 : decode cX5_doKeys 26 = .ok (.invokevirtual 60, 3) := by decide +kernel
theorem dX5_doKeys_29 : decode cX5_doKeys 29 = .ok (.checkcast 100, 3) := by decide +kernel
theorem dX5_doKeys_32 : decode cX5_doKeys 32 = .ok (.astore_n 2, 1) := by decide +kernel
theorem dX5_doKeys_33 : decode cX5_doKeys 33 = .ok (.aload_n 2, 1) := by decide +kernel
theorem dX5_doKeys_34 : decode cX5_doKeys 34 = .ok (.getfield 102, 3) := by decide +kernel
theorem dX5_doKeys_37 : decode cX5_doKeys 37 = .ok (.getfield 126, 3) := by decide +kernel
theorem dX5_doKeys_40 : decode cX5_doKeys 40 = .ok (.ifCond .eq 19, 3) := by decide +kernel
theorem dX5_doKeys_43 : decode cX5_doKeys 43 = .ok (.aload_n 2, 1) := by decide +kernel
theorem dX5_doKeys_44 : decode cX5_doKeys 44 = .ok (.getfield 102, 3) := by decide +kernel
theorem dX5_doKeys_47 : decode cX5_doKeys 47 = .ok (.aload_n 2, 1) := by decide +kernel
theorem dX5_doKeys_48 : decode cX5_doKeys 48 = .ok (.getfield 129, 3) := by decide +kernel
theorem dX5_doKeys_51 : decode cX5_doKeys 51 = .ok (.invokevirtual 132, 3) := by decide +kernel
theorem dX5_doKeys_54 : decode cX5_doKeys 54 = .ok (.aload_n 0, 1) := by decide +kernel
theorem dX5_doKeys_55 : decode cX5_doKeys 55 = .ok (.invokevirtual 53, 3) := by decide +kernel
theorem dX5_doKeys_58 : decode cX5_doKeys 58 = .ok (.pop, 1) := by decide +kernel
theorem dX5_doKeys_59 : decode cX5_doKeys 59 = .ok (.aload_n 2, 1) := by decide +kernel
theorem dX5_doKeys_60 : decode cX5_doKeys 60 = .ok (.getfield 106, 3) := by decide +kernel
theorem dX5_doKeys_63 : decode cX5_doKeys 63 = .ok (.aload_n 0, 1) := by decide +kernel
theorem dX5_doKeys_64 : decode cX5_doKeys 64 = .ok (.aload_n 2, 1) := by decide +kernel
theorem dX5_doKeys_65 : decode cX5_doKeys 65 = .ok (.invokevirtual 136, 3) := by decide +kernel
theorem dX5_doKeys_68 : decode cX5_doKeys 68 = .ok (.invokevirtual 140, 3) := by decide +kernel
theorem dX5_doKeys_71 : decode cX5_doKeys 71 = .ok (.iinc 1 1, 3) := by decide +kernel
theorem dX5_doKeys_74 : decode cX5_doKeys 74 = .ok (.goto (-64), 3) := by decide +kernel
theorem dX5_doKeys_77 : decode cX5_doKeys 77 = .ok (.aload_n 0, 1) := by decide +kernel
theorem dX5_doKeys_78 : decode cX5_doKeys 78 = .ok (.getfield 24, 3) := by decide +kernel
theorem dX5_doKeys_81 : decode cX5_doKeys 81 = .ok (.invokevirtual 146, 3) := by decide +kernel
theorem dX5_doKeys_84 : decode cX5_doKeys 84 = .ok (.return_, 1) := by decide +kernel
theorem dX5_isRight_0 : decode cX5_isRight 0 = .ok (.aload_n 1, 1) := by decide +kernel
theorem dX5_isRight_1 : decode cX5_isRight 1 = .ok (.getfield 102, 3) := by decide +kernel
theorem dX5_isRight_4 : decode cX5_isRight 4 = .ok (.aload_n 1, 1) := by decide +kernel
theorem dX5_isRight_5 : decode cX5_isRight 5 = .ok (.getfield 110, 3) := by decide +kernel
theorem dX5_isRight_8 : decode cX5_isRight 8 = .ok (.invokevirtual 113, 3) := by decide +kernel
theorem dX5_isRight_11 : decode cX5_isRight 11 = .ok (.istore_n 2, 1) := by decide +kernel
theorem dX5_isRight_12 : decode cX5_isRight 12 = .ok (.iload_n 2, 1) := by decide +kernel
theorem dX5_isRight_13 : decode cX5_isRight 13 = .ok (.iconst (-1), 1) := by decide +kernel
theorem dX5_isRight_14 : decode cX5_isRight 14 = .ok (.if_icmp .eq 30, 3) := by decide +kernel
theorem dX5_isRight_17 : decode cX5_isRight 17 = .ok (.aload_n 1, 1) := by decide +kernel
theorem dX5_isRight_18 : decode cX5_isRight 18 = .ok (.getfield 102, 3) := by decide +kernel
theorem dX5_isRight_21 : decode cX5_isRight 21 = .ok (.getfield 126, 3) := by decide +kernel
theorem dX5_isRight_24 : decode cX5_isRight 24 = .ok (.ifCond .eq 20, 3) := by decide +kernel
theorem dX5_isRight_27 : decode cX5_isRight 27 = .ok (.aload_n 0, 1) := by decide +kernel
theorem dX5_isRight_28 : decode cX5_isRight 28 = .ok (.getfield 27, 3) := by decide +kernel
theorem dX5_isRight_31 : decode cX5_isRight 31 = .ok (.iload_n 2, 1) := by decide +kernel
theorem dX5_isRight_32 : decode cX5_isRight 32 = .ok (.iaload, 1) := by decide +kernel
theorem dX5_isRight_33 : decode cX5_isRight 33 = .ok (.aload_n 1, 1) := by decide +kernel
theorem dX5_isRight_34 : decode cX5_isRight 34 = .ok (.getfield 129, 3) := by decide +kernel
theorem dX5_isRight_37 : decode cX5_isRight 37 = .ok (.if_icmp .ne 7, 3) := by decide +kernel
theorem dX5_isRight_40 : decode cX5_isRight 40 = .ok (.iconst 1, 1) := by decide +kernel
theorem dX5_isRight_41 : decode cX5_isRight 41 = .ok (.goto 4, 3) := by decide +kernel
theorem dX5_isRight_44 : decode cX5_isRight 44 = .ok (.iconst 0, 1) := by decide +kernel
theorem dX5_isRight_45 : decode cX5_isRight 45 = .ok (.ireturn, 1) := by decide +kernel
theorem dX5_lookForRecording_0 : decode cX5_lookForRecording 0 = .ok (.aload_n 0, 1) := by decide +kernel
theorem dX5_lookForRecording_1 : decode cX5_lookForRecording 1 = .ok (.getfield 91, 3) := by decide +kernel
theorem dX5_lookForRecording_4 : decode cX5_lookForRecording 4 = .ok (.ifnull 13, 3) := by decide +kernel
theorem dX5_lookForRecording_7 : decode cX5_lookForRecording 7 = .ok (.aload_n 0, 1) := by decide +kernel
theorem dX5_lookForRecording_8 : decode cX5_lookForRecording 8 = .ok (.getfield 91, 3) := by decide +kernel
theorem dX5_lookForRecording_11 : decode cX5_lookForRecording 11 = .ok (.invokevirtual 149, 3) := by decide +kernel
theorem dX5_lookForRecording_14 : decode cX5_lookForRecording 14 = .ok (.ifCond .eq 4, 3) := by decide +kernel
theorem dX5_lookForRecording_17 : decode cX5_lookForRecording 17 = .ok (.return_, 1) := by decide +kernel
theorem dX5_lookForRecording_18 : decode cX5_lookForRecording 18 = .ok (.iconst 0, 1) := by decide +kernel
theorem dX5_lookForRecording_19 : decode cX5_lookForRecording 19 = .ok (.istore_n 1, 1) := by decide +kernel
theorem dX5_lookForRecording_20 : decode cX5_lookForRecording 20 = .ok (.iload_n 1, 1) := by decide +kernel
theorem dX5_lookForRecording_21 : decode cX5_lookForRecording 21 = .ok (.bipush 96, 2) := by decide +kernel
theorem dX5_lookForRecording_23 : decode cX5_lookForRecording 23 = .ok (.if_icmp .ge 63, 3) := by decide +kernel
theorem dX5_lookForRecording_26 : decode cX5_lookForRecording 26 = .ok (.aload_n 0, 1) := by decide +kernel
theorem dX5_lookForRecording_27 : decode cX5_lookForRecording 27 = .ok (.iload_n 1, 1) := by decide +kernel
theorem dX5_lookForRecording_28 : decode cX5_lookForRecording 28 = .ok (.bipush 12, 2) := by decide +kernel
theorem dX5_lookForRecording_30 : decode cX5_lookForRecording 30 = .ok (.irem, 1) := by decide +kernel
theorem dX5_lookForRecording_31 : decode cX5_lookForRecording 31 = .ok (.iload_n 1, 1) := by decide +kernel
theorem dX5_lookForRecording_32 : decode cX5_lookForRecording 32 = .ok (.bipush 12, 2) := by decide +kernel
theorem dX5_lookForRecording_34 : decode cX5_lookForRecording 34 = .ok (.idiv, 1) := by decide +kernel
theorem dX5_lookForRecording_35 : decode cX5_lookForRecording 35 = .ok (.invokevirtual 75, 3) := by decide +kernel
theorem dX5_lookForRecording_38 : decode cX5_lookForRecording 38 = .ok (.astore_n 2, 1) := by decide +kernel
theorem dX5_lookForRecording_39 : decode cX5_lookForRecording 39 = .ok (.aload_n 2, 1) := by decide +kernel
theorem dX5_lookForRecording_40 : decode cX5_lookForRecording 40 = .ok (.ifnull 14, 3) := by decide +kernel
theorem dX5_lookForRecording_43 : decode cX5_lookForRecording 43 = .ok (.aload_n 2, 1) := by decide +kernel
theorem dX5_lookForRecording_44 : decode cX5_lookForRecording 44 = .ok (.getfield 152, 3) := by decide +kernel
theorem dX5_lookForRecording_47 : decode cX5_lookForRecording 47 = .ok (.ifCond .eq 7, 3) := by decide +kernel
theorem dX5_lookForRecording_50 : decode cX5_lookForRecording 50 = .ok (.iconst 1, 1) := by decide +kernel
theorem dX5_lookForRecording_51 : decode cX5_lookForRecording 51 = .ok (.goto 4, 3) := by decide +kernel
theorem dX5_lookForRecording_54 : decode cX5_lookForRecording 54 = .ok (.iconst 0, 1) := by decide +kernel
theorem dX5_lookForRecording_55 : decode cX5_lookForRecording 55 = .ok (.istore_n 3, 1) := by decide +kernel
theorem dX5_lookForRecording_56 : decode cX5_lookForRecording 56 = .ok (.aload_n 0, 1) := by decide +kernel
theorem dX5_lookForRecording_57 : decode cX5_lookForRecording 57 = .ok (.getfield 91, 3) := by decide +kernel
theorem dX5_lookForRecording_60 : decode cX5_lookForRecording 60 = .ok (.iload_n 1, 1) := by decide +kernel
theorem dX5_lookForRecording_61 : decode cX5_lookForRecording 61 = .ok (.iload_n 3, 1) := by decide +kernel
theorem dX5_lookForRecording_62 : decode cX5_lookForRecording 62 = .ok (.ifCond .eq 9, 3) := by decide +kernel
theorem dX5_lookForRecording_65 : decode cX5_lookForRecording 65 = .ok (.sipush 255, 3) := by decide +kernel
theorem dX5_lookForRecording_68 : decode cX5_lookForRecording 68 = .ok (.goto 9, 3) := by decide +kernel
theorem dX5_lookForRecording_71 : decode cX5_lookForRecording 71 = .ok (.aload_n 0, 1) := by decide +kernel
theorem dX5_lookForRecording_72 : decode cX5_lookForRecording 72 = .ok (.getfield 27, 3) := by decide +kernel
theorem dX5_lookForRecording_75 : decode cX5_lookForRecording 75 = .ok (.iload_n 1, 1) := by decide +kernel
theorem dX5_lookForRecording_76 : decode cX5_lookForRecording 76 = .ok (.iaload, 1) := by decide +kernel
theorem dX5_lookForRecording_77 : decode cX5_lookForRecording 77 = .ok (.invokevirtual 155, 3) := by decide +kernel
theorem dX5_lookForRecording_80 : decode cX5_lookForRecording 80 = .ok (.iinc 1 1, 3) := by decide +kernel
theorem dX5_lookForRecording_83 : decode cX5_lookForRecording 83 = .ok (.goto (-63), 3) := by decide +kernel
theorem dX5_lookForRecording_86 : decode cX5_lookForRecording 86 = .ok (.aload_n 0, 1) := by decide +kernel
theorem dX5_lookForRecording_87 : decode cX5_lookForRecording 87 = .ok (.getfield 91, 3) := by decide +kernel
theorem dX5_lookForRecording_90 : decode cX5_lookForRecording 90 = .ok (.invokevirtual 159, 3) := by decide +kernel
theorem dX5_lookForRecording_93 : decode cX5_lookForRecording 93 = .ok (.return_, 1) := by decide +kernel
theorem dX6_init_0 : decode cX6_init 0 = .ok (.aload_n 0, 1) := by decide +kernel
theorem dX6_init_1 : decode cX6_init 1 = .ok (.invokespecial 3, 3) := by decide +kernel
theorem dX6_init_4 : decode cX6_init 4 = .ok (.aload_n 0, 1) := by decide +kernel
theorem dX6_init_5 : decode cX6_init 5 = .ok (.bipush 96, 2) := by decide +kernel
theorem dX6_init_7 : decode cX6_init 7 = .ok (.newarray .int, 2) := by decide +kernel
theorem dX6_init_9 : decode cX6_init 9 = .ok (.putfield 9, 3) := by decide +kernel
theorem dX6_init_12 : decode cX6_init 12 = .ok (.aload_n 0, 1) := by decide +kernel
theorem dX6_init_13 : decode cX6_init 13 = .ok (.bipush 8, 2) := by decide +kernel
theorem dX6_init_15 : decode cX6_init 15 = .ok (.newarray .boolean, 2) := by decide +kernel
theorem dX6_init_17 : decode cX6_init 17 = .ok (.putfield 15, 3) := by decide +kernel
theorem dX6_init_20 : decode cX6_init 20 = .ok (.return_, 1) := by decide +kernel
theorem dX6_begin_0 : decode cX6_begin 0 = .ok (.aload_n 0, 1) := by decide +kernel
theorem dX6_begin_1 : decode cX6_begin 1 = .ok (.iconst 1, 1) := by decide +kernel
theorem dX6_begin_2 : decode cX6_begin 2 = .ok (.putfield 19, 3) := by decide +kernel
theorem dX6_begin_5 : decode cX6_begin 5 = .ok (.iconst 0, 1) := by decide +kernel
theorem dX6_begin_6 : decode cX6_begin 6 = .ok (.istore_n 1, 1) := by decide +kernel
theorem dX6_begin_7 : decode cX6_begin 7 = .ok (.iload_n 1, 1) := by decide +kernel
theorem dX6_begin_8 : decode cX6_begin 8 = .ok (.bipush 8, 2) := by decide +kernel
theorem dX6_begin_10 : decode cX6_begin 10 = .ok (.if_icmp .ge 16, 3) := by decide +kernel
theorem dX6_begin_13 : decode cX6_begin 13 = .ok (.aload_n 0, 1) := by decide +kernel
theorem dX6_begin_14 : decode cX6_begin 14 = .ok (.getfield 15, 3) := by decide +kernel
theorem dX6_begin_17 : decode cX6_begin 17 = .ok (.iload_n 1, 1) := by decide +kernel
theorem dX6_begin_18 : decode cX6_begin 18 = .ok (.iconst 0, 1) := by decide +kernel
theorem dX6_begin_19 : decode cX6_begin 19 = .ok (.bastore, 1) := by decide +kernel
theorem dX6_begin_20 : decode cX6_begin 20 = .ok (.iinc 1 1, 3) := by decide +kernel
theorem dX6_begin_23 : decode cX6_begin 23 = .ok (.goto (-16), 3) := by decide +kernel
theorem dX6_begin_26 : decode cX6_begin 26 = .ok (.return_, 1) := by decide +kernel
theorem dX6_isOther_0 : decode cX6_isOther 0 = .ok (.iload_n 2, 1) := by decide +kernel
theorem dX6_isOther_1 : decode cX6_isOther 1 = .ok (.bipush 12, 2) := by decide +kernel
theorem dX6_isOther_3 : decode cX6_isOther 3 = .ok (.imul, 1) := by decide +kernel
theorem dX6_isOther_4 : decode cX6_isOther 4 = .ok (.istore_n 3, 1) := by decide +kernel
theorem dX6_isOther_5 : decode cX6_isOther 5 = .ok (.iload_n 3, 1) := by decide +kernel
theorem dX6_isOther_6 : decode cX6_isOther 6 = .ok (.iload_n 2, 1) := by decide +kernel
theorem dX6_isOther_7 : decode cX6_isOther 7 = .ok (.iconst 1, 1) := by decide +kernel
theorem dX6_isOther_8 : decode cX6_isOther 8 = .ok (.iadd, 1) := by decide +kernel
theorem dX6_isOther_9 : decode cX6_isOther 9 = .ok (.bipush 12, 2) := by decide +kernel
theorem dX6_isOther_11 : decode cX6_isOther 11 = .ok (.imul, 1) := by decide +kernel
theorem dX6_isOther_12 : decode cX6_isOther 12 = .ok (.if_icmp .ge 23, 3) := by decide +kernel
theorem dX6_isOther_15 : decode cX6_isOther 15 = .ok (.aload_n 0, 1) := by decide +kernel
theorem dX6_isOther_16 : decode cX6_isOther 16 = .ok (.getfield 9, 3) := by decide +kernel
theorem dX6_isOther_19 : decode cX6_isOther 19 = .ok (.iload_n 3, 1) := by decide +kernel
theorem dX6_isOther_20 : decode cX6_isOther 20 = .ok (.iaload, 1) := by decide +kernel
theorem dX6_isOther_21 : decode cX6_isOther 21 = .ok (.aload_n 1, 1) := by decide +kernel
theorem dX6_isOther_22 : decode cX6_isOther 22 = .ok (.iload_n 3, 1) := by decide +kernel
theorem dX6_isOther_23 : decode cX6_isOther 23 = .ok (.iaload, 1) := by decide +kernel
theorem dX6_isOther_24 : decode cX6_isOther 24 = .ok (.if_icmp .eq 5, 3) := by decide +kernel
theorem dX6_isOther_27 : decode cX6_isOther 27 = .ok (.iconst 1, 1) := by decide +kernel
theorem dX6_isOther_28 : decode cX6_isOther 28 = .ok (.ireturn, 1) := by decide +kernel
theorem dX6_isOther_29 : decode cX6_isOther 29 = .ok (.iinc 3 1, 3) := by decide +kernel
theorem dX6_isOther_32 : decode cX6_isOther 32 = .ok (.goto (-27), 3) := by decide +kernel
theorem dX6_isOther_35 : decode cX6_isOther 35 = .ok (.iconst 0, 1) := by decide +kernel
theorem dX6_isOther_36 : decode cX6_isOther 36 = .ok (.ireturn, 1) := by decide +kernel
theorem dX6_countRowsLeft_0 : decode cX6_countRowsLeft 0 = .ok (.iconst 0, 1) := by decide +kernel
theorem dX6_countRowsLeft_1 : decode cX6_countRowsLeft 1 = .ok (.istore_n 2, 1) := by decide +kernel
theorem dX6_countRowsLeft_2 : decode cX6_countRowsLeft 2 = .ok (.iconst 0, 1) := by decide +kernel
theorem dX6_countRowsLeft_3 : decode cX6_countRowsLeft 3 = .ok (.istore_n 3, 1) := by decide +kernel
theorem dX6_countRowsLeft_4 : decode cX6_countRowsLeft 4 = .ok (.iload_n 3, 1) := by decide +kernel
theorem dX6_countRowsLeft_5 : decode cX6_countRowsLeft 5 = .ok (.bipush 8, 2) := by decide +kernel
theorem dX6_countRowsLeft_7 : decode cX6_countRowsLeft 7 = .ok (.if_icmp .ge 30, 3) := by decide +kernel
theorem dX6_countRowsLeft_10 : decode cX6_countRowsLeft 10 = .ok (.aload_n 0, 1) := by decide +kernel
theorem dX6_countRowsLeft_11 : decode cX6_countRowsLeft 11 = .ok (.getfield 15, 3) := by decide +kernel
theorem dX6_countRowsLeft_14 : decode cX6_countRowsLeft 14 = .ok (.iload_n 3, 1) := by decide +kernel
theorem dX6_countRowsLeft_15 : decode cX6_countRowsLeft 15 = .ok (.baload, 1) := by decide +kernel
theorem dX6_countRowsLeft_16 : decode cX6_countRowsLeft 16 = .ok (.ifCond .eq 12, 3) := by decide +kernel
theorem dX6_countRowsLeft_19 : decode cX6_countRowsLeft 19 = .ok (.aload_n 0, 1) := by decide +kernel
theorem dX6_countRowsLeft_20 : decode cX6_countRowsLeft 20 = .ok (.aload_n 1, 1) := by decide +kernel
theorem dX6_countRowsLeft_21 : decode cX6_countRowsLeft 21 = .ok (.iload_n 3, 1) := by decide +kernel
theorem dX6_countRowsLeft_22 : decode cX6_countRowsLeft 22 = .ok (.invokevirtual 23, 3) := by decide +kernel
theorem dX6_countRowsLeft_25 : decode cX6_countRowsLeft 25 = .ok (.ifCond .eq 6, 3) := by decide +kernel
theorem dX6_countRowsLeft_28 : decode cX6_countRowsLeft 28 = .ok (.iinc 2 1, 3) := by decide +kernel
theorem dX6_countRowsLeft_31 : decode cX6_countRowsLeft 31 = .ok (.iinc 3 1, 3) := by decide +kernel
theorem dX6_countRowsLeft_34 : decode cX6_countRowsLeft 34 = .ok (.goto (-30), 3) := by decide +kernel
theorem dX6_countRowsLeft_37 : decode cX6_countRowsLeft 37 = .ok (.iload_n 2, 1) := by decide +kernel
theorem dX6_countRowsLeft_38 : decode cX6_countRowsLeft 38 = .ok (.ireturn, 1) := by decide +kernel
theorem dX6_advance_0 : decode cX6_advance 0 = .ok (.aload_n 0, 1) := by decide +kernel
theorem dX6_advance_1 : decode cX6_advance 1 = .ok (.aload_n 1, 1) := by decide +kernel
theorem dX6_advance_2 : decode cX6_advance 2 = .ok (.invokevirtual 27, 3) := by decide +kernel
theorem dX6_advance_5 : decode cX6_advance 5 = .ok (.iconst 2, 1) := by decide +kernel
theorem dX6_advance_6 : decode cX6_advance 6 = .ok (.if_icmp .gt 20, 3) := by decide +kernel
theorem dX6_advance_9 : decode cX6_advance 9 = .ok (.aload_n 0, 1) := by decide +kernel
theorem dX6_advance_10 : decode cX6_advance 10 = .ok (.iconst 0, 1) := by decide +kernel
theorem dX6_advance_11 : decode cX6_advance 11 = .ok (.putfield 19, 3) := by decide +kernel
theorem dX6_advance_14 : decode cX6_advance 14 = .ok (.aload_n 0, 1) := by decide +kernel
theorem dX6_advance_15 : decode cX6_advance 15 = .ok (.dup, 1) := by decide +kernel
theorem dX6_advance_16 : decode cX6_advance 16 = .ok (.getfield 31, 3) := by decide +kernel
theorem dX6_advance_19 : decode cX6_advance 19 = .ok (.iconst 1, 1) := by decide +kernel
theorem dX6_advance_20 : decode cX6_advance 20 = .ok (.iadd, 1) := by decide +kernel
theorem dX6_advance_21 : decode cX6_advance 21 = .ok (.putfield 31, 3) := by decide +kernel
theorem dX6_advance_24 : decode cX6_advance 24 = .ok (.iconst 1, 1) := by decide +kernel
theorem dX6_advance_25 : decode cX6_advance 25 = .ok (.ireturn, 1) := by decide +kernel
theorem dX6_advance_26 : decode cX6_advance 26 = .ok (.aload_n 0, 1) := by decide +kernel
theorem dX6_advance_27 : decode cX6_advance 27 = .ok (.aload_n 1, 1) := by decide +kernel
theorem dX6_advance_28 : decode cX6_advance 28 = .ok (.invokevirtual 35, 3) := by decide +kernel
theorem dX6_advance_31 : decode cX6_advance 31 = .ok (.istore_n 2, 1) := by decide +kernel
theorem dX6_advance_32 : decode cX6_advance 32 = .ok (.aload_n 0, 1) := by decide +kernel
theorem dX6_advance_33 : decode cX6_advance 33 = .ok (.getfield 15, 3) := by decide +kernel
theorem dX6_advance_36 : decode cX6_advance 36 = .ok (.iload_n 2, 1) := by decide +kernel
theorem dX6_advance_37 : decode cX6_advance 37 = .ok (.iconst 1, 1) := by decide +kernel
theorem dX6_advance_38 : decode cX6_advance 38 = .ok (.bastore, 1) := by decide +kernel
theorem dX6_advance_39 : decode cX6_advance 39 = .ok (.aload_n 1, 1) := by decide +kernel
theorem dX6_advance_40 : decode cX6_advance 40 = .ok (.iload_n 2, 1) := by decide +kernel
theorem dX6_advance_41 : decode cX6_advance 41 = .ok (.bipush 12, 2) := by decide +kernel
theorem dX6_advance_43 : decode cX6_advance 43 = .ok (.imul, 1) := by decide +kernel
theorem dX6_advance_44 : decode cX6_advance 44 = .ok (.aload_n 0, 1) := by decide +kernel
theorem dX6_advance_45 : decode cX6_advance 45 = .ok (.getfield 9, 3) := by decide +kernel
theorem dX6_advance_48 : decode cX6_advance 48 = .ok (.iload_n 2, 1) := by decide +kernel
theorem dX6_advance_49 : decode cX6_advance 49 = .ok (.bipush 12, 2) := by decide +kernel
theorem dX6_advance_51 : decode cX6_advance 51 = .ok (.imul, 1) := by decide +kernel
theorem dX6_advance_52 : decode cX6_advance 52 = .ok (.bipush 12, 2) := by decide +kernel
theorem dX6_advance_54 : decode cX6_advance 54 = .ok (.invokestatic 38, 3) := by decide +kernel
theorem dX6_advance_57 : decode cX6_advance 57 = .ok (.iconst 0, 1) := by decide +kernel
theorem dX6_advance_58 : decode cX6_advance 58 = .ok (.ireturn, 1) := by decide +kernel
theorem dX6_nextRow_0 : decode cX6_nextRow 0 = .ok (.iconst 0, 1) := by decide +kernel
theorem dX6_nextRow_1 : decode cX6_nextRow 1 = .ok (.istore_n 2, 1) := by decide +kernel
theorem dX6_nextRow_2 : decode cX6_nextRow 2 = .ok (.iload_n 2, 1) := by decide +kernel
theorem dX6_nextRow_3 : decode cX6_nextRow 3 = .ok (.bipush 8, 2) := by decide +kernel
theorem dX6_nextRow_5 : decode cX6_nextRow 5 = .ok (.if_icmp .ge 20, 3) := by decide +kernel
theorem dX6_nextRow_8 : decode cX6_nextRow 8 = .ok (.aload_n 0, 1) := by decide +kernel
theorem dX6_nextRow_9 : decode cX6_nextRow 9 = .ok (.getfield 15, 3) := by decide +kernel
theorem dX6_nextRow_12 : decode cX6_nextRow 12 = .ok (.iload_n 2, 1) := by decide +kernel
theorem dX6_nextRow_13 : decode cX6_nextRow 13 = .ok (.baload, 1) := by decide +kernel
theorem dX6_nextRow_14 : decode cX6_nextRow 14 = .ok (.ifCond .ne 5, 3) := by decide +kernel
theorem dX6_nextRow_17 : decode cX6_nextRow 17 = .ok (.iload_n 2, 1) := by decide +kernel
theorem dX6_nextRow_18 : decode cX6_nextRow 18 = .ok (.ireturn, 1) := by decide +kernel
theorem dX6_nextRow_19 : decode cX6_nextRow 19 = .ok (.iinc 2 1, 3) := by decide +kernel
theorem dX6_nextRow_22 : decode cX6_nextRow 22 = .ok (.goto (-20), 3) := by decide +kernel
theorem dX6_nextRow_25 : decode cX6_nextRow 25 = .ok (.iconst 0, 1) := by decide +kernel
theorem dX6_nextRow_26 : decode cX6_nextRow 26 = .ok (.istore_n 2, 1) := by decide +kernel
theorem dX6_nextRow_27 : decode cX6_nextRow 27 = .ok (.iload_n 2, 1) := by decide +kernel
theorem dX6_nextRow_28 : decode cX6_nextRow 28 = .ok (.bipush 8, 2) := by decide +kernel
theorem dX6_nextRow_30 : decode cX6_nextRow 30 = .ok (.if_icmp .ge 20, 3) := by decide +kernel
theorem dX6_nextRow_33 : decode cX6_nextRow 33 = .ok (.aload_n 0, 1) := by decide +kernel
theorem dX6_nextRow_34 : decode cX6_nextRow 34 = .ok (.aload_n 1, 1) := by decide +kernel
theorem dX6_nextRow_35 : decode cX6_nextRow 35 = .ok (.iload_n 2, 1) := by decide +kernel
theorem dX6_nextRow_36 : decode cX6_nextRow 36 = .ok (.invokevirtual 23, 3) := by decide +kernel
theorem dX6_nextRow_39 : decode cX6_nextRow 39 = .ok (.ifCond .eq 5, 3) := by decide +kernel
theorem dX6_nextRow_42 : decode cX6_nextRow 42 = .ok (.iload_n 2, 1) := by decide +kernel
theorem dX6_nextRow_43 : decode cX6_nextRow 43 = .ok (.ireturn, 1) := by decide +kernel
theorem dX6_nextRow_44 : decode cX6_nextRow 44 = .ok (.iinc 2 1, 3) := by decide +kernel
theorem dX6_nextRow_47 : decode cX6_nextRow 47 = .ok (.goto (-20), 3) := by decide +kernel
theorem dX6_nextRow_50 : decode cX6_nextRow 50 = .ok (.iconst 0, 1) := by decide +kernel
theorem dX6_nextRow_51 : decode cX6_nextRow 51 = .ok (.ireturn, 1) := by decide +kernel
theorem dX7_init_0 : decode cX7_init 0 = .ok (.aload_n 0, 1) := by decide +kernel
theorem dX7_init_1 : decode cX7_init 1 = .ok (.invokespecial 3, 3) := by decide +kernel
theorem dX7_init_4 : decode cX7_init 4 = .ok (.aload_n 0, 1) := by decide +kernel
theorem dX7_init_5 : decode cX7_init 5 = .ok (.iload_n 1, 1) := by decide +kernel
theorem dX7_init_6 : decode cX7_init 6 = .ok (.putfield 9, 3) := by decide +kernel
theorem dX7_init_9 : decode cX7_init 9 = .ok (.aload_n 0, 1) := by decide +kernel
theorem dX7_init_10 : decode cX7_init 10 = .ok (.iload_n 2, 1) := by decide +kernel
theorem dX7_init_11 : decode cX7_init 11 = .ok (.putfield 15, 3) := by decide +kernel
theorem dX7_init_14 : decode cX7_init 14 = .ok (.aload_n 0, 1) := by decide +kernel
theorem dX7_init_15 : decode cX7_init 15 = .ok (.iload_n 3, 1) := by decide +kernel
theorem dX7_init_16 : decode cX7_init 16 = .ok (.putfield 18, 3) := by decide +kernel
theorem dX7_init_19 : decode cX7_init 19 = .ok (.aload_n 0, 1) := by decide +kernel
theorem dX7_init_20 : decode cX7_init 20 = .ok (.iload 4, 2) := by decide +kernel
theorem dX7_init_22 : decode cX7_init 22 = .ok (.putfield 21, 3) := by decide +kernel
theorem dX7_init_25 : decode cX7_init 25 = .ok (.aload_n 0, 1) := by decide +kernel
theorem dX7_init_26 : decode cX7_init 26 = .ok (.iload_n 3, 1) := by decide +kernel
theorem dX7_init_27 : decode cX7_init 27 = .ok (.iload 4, 2) := by decide +kernel
theorem dX7_init_29 : decode cX7_init 29 = .ok (.imul, 1) := by decide +kernel
theorem dX7_init_30 : decode cX7_init 30 = .ok (.newarray .int, 2) := by decide +kernel
theorem dX7_init_32 : decode cX7_init 32 = .ok (.putfield 24, 3) := by decide +kernel
theorem dX7_init_35 : decode cX7_init 35 = .ok (.aload_n 0, 1) := by decide +kernel
theorem dX7_init_36 : decode cX7_init 36 = .ok (.iconst 1, 1) := by decide +kernel
theorem dX7_init_37 : decode cX7_init 37 = .ok (.putfield 28, 3) := by decide +kernel
theorem dX7_init_40 : decode cX7_init 40 = .ok (.aload_n 0, 1) := by decide +kernel
theorem dX7_init_41 : decode cX7_init 41 = .ok (.iconst 1, 1) := by decide +kernel
theorem dX7_init_42 : decode cX7_init 42 = .ok (.putfield 32, 3) := by decide +kernel
theorem dX7_init_45 : decode cX7_init 45 = .ok (.return_, 1) := by decide +kernel
theorem dX7_covers_0 : decode cX7_covers 0 = .ok (.iload_n 1, 1) := by decide +kernel
theorem dX7_covers_1 : decode cX7_covers 1 = .ok (.aload_n 0, 1) := by decide +kernel
theorem dX7_covers_2 : decode cX7_covers 2 = .ok (.getfield 9, 3) := by decide +kernel
theorem dX7_covers_5 : decode cX7_covers 5 = .ok (.if_icmp .lt 41, 3) := by decide +kernel
theorem dX7_covers_8 : decode cX7_covers 8 = .ok (.iload_n 1, 1) := by decide +kernel
theorem dX7_covers_9 : decode cX7_covers 9 = .ok (.aload_n 0, 1) := by decide +kernel
theorem dX7_covers_10 : decode cX7_covers 10 = .ok (.getfield 9, 3) := by decide +kernel
theorem dX7_covers_13 : decode cX7_covers 13 = .ok (.aload_n 0, 1) := by decide +kernel
theorem dX7_covers_14 : decode cX7_covers 14 = .ok (.getfield 18, 3) := by decide +kernel
theorem dX7_covers_17 : decode cX7_covers 17 = .ok (.iadd, 1) := by decide +kernel
theorem dX7_covers_18 : decode cX7_covers 18 = .ok (.if_icmp .ge 28, 3) := by decide +kernel
theorem dX7_covers_21 : decode cX7_covers 21 = .ok (.iload_n 2, 1) := by decide +kernel
theorem dX7_covers_22 : decode cX7_covers 22 = .ok (.aload_n 0, 1) := by decide +kernel
theorem dX7_covers_23 : decode cX7_covers 23 = .ok (.getfield 15, 3) := by decide +kernel
theorem dX7_covers_26 : decode cX7_covers 26 = .ok (.if_icmp .lt 20, 3) := by decide +kernel
theorem dX7_covers_29 : decode cX7_covers 29 = .ok (.iload_n 2, 1) := by decide +kernel
theorem dX7_covers_30 : decode cX7_covers 30 = .ok (.aload_n 0, 1) := by decide +kernel
theorem dX7_covers_31 : decode cX7_covers 31 = .ok (.getfield 15, 3) := by decide +kernel
theorem dX7_covers_34 : decode cX7_covers 34 = .ok (.aload_n 0, 1) := by decide +kernel
theorem dX7_covers_35 : decode cX7_covers 35 = .ok (.getfield 21, 3) := by decide +kernel
theorem dX7_covers_38 : decode cX7_covers 38 = .ok (.iadd, 1) := by decide +kernel
theorem dX7_covers_39 : decode cX7_covers 39 = .ok (.if_icmp .ge 7, 3) := by decide +kernel
theorem dX7_covers_42 : decode cX7_covers 42 = .ok (.iconst 1, 1) := by decide +kernel
theorem dX7_covers_43 : decode cX7_covers 43 = .ok (.goto 4, 3) := by decide +kernel
theorem dX7_covers_46 : decode cX7_covers 46 = .ok (.iconst 0, 1) := by decide +kernel
theorem dX7_covers_47 : decode cX7_covers 47 = .ok (.ireturn, 1) := by decide +kernel
theorem dX7_colourAt_0 : decode cX7_colourAt 0 = .ok (.aload_n 0, 1) := by decide +kernel
theorem dX7_colourAt_1 : decode cX7_colourAt 1 = .ok (.getfield 24, 3) := by decide +kernel
theorem dX7_colourAt_4 : decode cX7_colourAt 4 = .ok (.iload_n 2, 1) := by decide +kernel
theorem dX7_colourAt_5 : decode cX7_colourAt 5 = .ok (.aload_n 0, 1) := by decide +kernel
theorem dX7_colourAt_6 : decode cX7_colourAt 6 = .ok (.getfield 15, 3) := by decide +kernel
theorem dX7_colourAt_9 : decode cX7_colourAt 9 = .ok (.isub, 1) := by decide +kernel
theorem dX7_colourAt_10 : decode cX7_colourAt 10 = .ok (.aload_n 0, 1) := by decide +kernel
theorem dX7_colourAt_11 : decode cX7_colourAt 11 = .ok (.getfield 18, 3) := by decide +kernel
theorem dX7_colourAt_14 : decode cX7_colourAt 14 = .ok (.imul, 1) := by decide +kernel
theorem dX7_colourAt_15 : decode cX7_colourAt 15 = .ok (.iload_n 1, 1) := by decide +kernel
theorem dX7_colourAt_16 : decode cX7_colourAt 16 = .ok (.iadd, 1) := by decide +kernel
theorem dX7_colourAt_17 : decode cX7_colourAt 17 = .ok (.aload_n 0, 1) := by decide +kernel
theorem dX7_colourAt_18 : decode cX7_colourAt 18 = .ok (.getfield 9, 3) := by decide +kernel
theorem dX7_colourAt_21 : decode cX7_colourAt 21 = .ok (.isub, 1) := by decide +kernel
theorem dX7_colourAt_22 : decode cX7_colourAt 22 = .ok (.iaload, 1) := by decide +kernel
theorem dX7_colourAt_23 : decode cX7_colourAt 23 = .ok (.ireturn, 1) := by decide +kernel
theorem dX7_fillPart_0 : decode cX7_fillPart 0 = .ok (.iconst 0, 1) := by decide +kernel
theorem dX7_fillPart_1 : decode cX7_fillPart 1 = .ok (.istore 6, 2) := by decide +kernel
theorem dX7_fillPart_3 : decode cX7_fillPart 3 = .ok (.iload_n 1, 1) := by decide +kernel
theorem dX7_fillPart_4 : decode cX7_fillPart 4 = .ok (.iload_n 3, 1) := by decide +kernel
theorem dX7_fillPart_5 : decode cX7_fillPart 5 = .ok (.iadd, 1) := by decide +kernel
theorem dX7_fillPart_6 : decode cX7_fillPart 6 = .ok (.aload_n 0, 1) := by decide +kernel
theorem dX7_fillPart_7 : decode cX7_fillPart 7 = .ok (.getfield 18, 3) := by decide +kernel
theorem dX7_fillPart_10 : decode cX7_fillPart 10 = .ok (.invokestatic 35, 3) := by decide +kernel
theorem dX7_fillPart_13 : decode cX7_fillPart 13 = .ok (.istore 7, 2) := by decide +kernel
theorem dX7_fillPart_15 : decode cX7_fillPart 15 = .ok (.iload_n 2, 1) := by decide +kernel
theorem dX7_fillPart_16 : decode cX7_fillPart 16 = .ok (.iload 4, 2) := by decide +kernel
theorem dX7_fillPart_18 : decode cX7_fillPart 18 = .ok (.iadd, 1) := by decide +kernel
theorem dX7_fillPart_19 : decode cX7_fillPart 19 = .ok (.aload_n 0, 1) := by decide +kernel
theorem dX7_fillPart_20 : decode cX7_fillPart 20 = .ok (.getfield 21, 3) := by decide +kernel
theorem dX7_fillPart_23 : decode cX7_fillPart 23 = .ok (.invokestatic 35, 3) := by decide +kernel
theorem dX7_fillPart_26 : decode cX7_fillPart 26 = .ok (.istore 8, 2) := by decide +kernel
theorem dX7_fillPart_28 : decode cX7_fillPart 28 = .ok (.iload_n 2, 1) := by decide +kernel
theorem dX7_fillPart_29 : decode cX7_fillPart 29 = .ok (.istore 9, 2) := by decide +kernel
theorem dX7_fillPart_31 : decode cX7_fillPart 31 = .ok (.iload 9, 2) := by decide +kernel
theorem dX7_fillPart_33 : decode cX7_fillPart 33 = .ok (.iload 8, 2) := by decide +kernel
theorem dX7_fillPart_35 : decode cX7_fillPart 35 = .ok (.if_icmp .ge 61, 3) := by decide +kernel
theorem dX7_fillPart_38 : decode cX7_fillPart 38 = .ok (.iload_n 1, 1) := by decide +kernel
theorem dX7_fillPart_39 : decode cX7_fillPart 39 = .ok (.istore 10, 2) := by decide +kernel
theorem dX7_fillPart_41 : decode cX7_fillPart 41 = .ok (.iload 10, 2) := by decide +kernel
theorem dX7_fillPart_43 : decode cX7_fillPart 43 = .ok (.iload 7, 2) := by decide +kernel
theorem dX7_fillPart_45 : decode cX7_fillPart 45 = .ok (.if_icmp .ge 45, 3) := by decide +kernel
theorem dX7_fillPart_48 : decode cX7_fillPart 48 = .ok (.iload 9, 2) := by decide +kernel
theorem dX7_fillPart_50 : decode cX7_fillPart 50 = .ok (.aload_n 0, 1) := by decide +kernel
theorem dX7_fillPart_51 : decode cX7_fillPart 51 = .ok (.getfield 18, 3) := by decide +kernel
theorem dX7_fillPart_54 : decode cX7_fillPart 54 = .ok (.imul, 1) := by decide +kernel
theorem dX7_fillPart_55 : decode cX7_fillPart 55 = .ok (.iload 10, 2) := by decide +kernel
theorem dX7_fillPart_57 : decode cX7_fillPart 57 = .ok (.iadd, 1) := by decide +kernel
theorem dX7_fillPart_58 : decode cX7_fillPart 58 = .ok (.istore 11, 2) := by decide +kernel
theorem dX7_fillPart_60 : decode cX7_fillPart 60 = .ok (.aload_n 0, 1) := by decide +kernel
theorem dX7_fillPart_61 : decode cX7_fillPart 61 = .ok (.getfield 24, 3) := by decide +kernel
theorem dX7_fillPart_64 : decode cX7_fillPart 64 = .ok (.iload 11, 2) := by decide +kernel
theorem dX7_fillPart_66 : decode cX7_fillPart 66 = .ok (.iaload, 1) := by decide +kernel
theorem dX7_fillPart_67 : decode cX7_fillPart 67 = .ok (.iload 5, 2) := by decide +kernel
theorem dX7_fillPart_69 : decode cX7_fillPart 69 = .ok (.if_icmp .eq 15, 3) := by decide +kernel
theorem dX7_fillPart_72 : decode cX7_fillPart 72 = .ok (.aload_n 0, 1) := by decide +kernel
theorem dX7_fillPart_73 : decode cX7_fillPart 73 = .ok (.getfield 24, 3) := by decide +kernel
theorem dX7_fillPart_76 : decode cX7_fillPart 76 = .ok (.iload 11, 2) := by decide +kernel
theorem dX7_fillPart_78 : decode cX7_fillPart 78 = .ok (.iload 5, 2) := by decide +kernel
theorem dX7_fillPart_80 : decode cX7_fillPart 80 = .ok (.iastore, 1) := by decide +kernel
theorem dX7_fillPart_81 : decode cX7_fillPart 81 = .ok (.iinc 6 1, 3) := by decide +kernel
theorem dX7_fillPart_84 : decode cX7_fillPart 84 = .ok (.iinc 10 1, 3) := by decide +kernel
theorem dX7_fillPart_87 : decode cX7_fillPart 87 = .ok (.goto (-46), 3) := by decide +kernel
theorem dX7_fillPart_90 : decode cX7_fillPart 90 = .ok (.iinc 9 1, 3) := by decide +kernel
theorem dX7_fillPart_93 : decode cX7_fillPart 93 = .ok (.goto (-62), 3) := by decide +kernel
theorem dX7_fillPart_96 : decode cX7_fillPart 96 = .ok (.iload 6, 2) := by decide +kernel
theorem dX7_fillPart_98 : decode cX7_fillPart 98 = .ok (.ireturn, 1) := by decide +kernel
theorem dX7_cellAhead_0 : decode cX7_cellAhead 0 = .ok (.aload_n 0, 1) := by decide +kernel
theorem dX7_cellAhead_1 : decode cX7_cellAhead 1 = .ok (.getfield 41, 3) := by decide +kernel
theorem dX7_cellAhead_4 : decode cX7_cellAhead 4 = .ok (.iload_n 1, 1) := by decide +kernel
theorem dX7_cellAhead_5 : decode cX7_cellAhead 5 = .ok (.iadd, 1) := by decide +kernel
theorem dX7_cellAhead_6 : decode cX7_cellAhead 6 = .ok (.aload_n 0, 1) := by decide +kernel
theorem dX7_cellAhead_7 : decode cX7_cellAhead 7 = .ok (.getfield 24, 3) := by decide +kernel
theorem dX7_cellAhead_10 : decode cX7_cellAhead 10 = .ok (.arraylength, 1) := by decide +kernel
theorem dX7_cellAhead_11 : decode cX7_cellAhead 11 = .ok (.irem, 1) := by decide +kernel
theorem dX7_cellAhead_12 : decode cX7_cellAhead 12 = .ok (.ireturn, 1) := by decide +kernel
theorem dX7_placeOf_0 : decode cX7_placeOf 0 = .ok (.aload_n 0, 1) := by decide +kernel
theorem dX7_placeOf_1 : decode cX7_placeOf 1 = .ok (.getfield 9, 3) := by decide +kernel
theorem dX7_placeOf_4 : decode cX7_placeOf 4 = .ok (.iload_n 1, 1) := by decide +kernel
theorem dX7_placeOf_5 : decode cX7_placeOf 5 = .ok (.aload_n 0, 1) := by decide +kernel
theorem dX7_placeOf_6 : decode cX7_placeOf 6 = .ok (.getfield 18, 3) := by decide +kernel
theorem dX7_placeOf_9 : decode cX7_placeOf 9 = .ok (.irem, 1) := by decide +kernel
theorem dX7_placeOf_10 : decode cX7_placeOf 10 = .ok (.iadd, 1) := by decide +kernel
theorem dX7_placeOf_11 : decode cX7_placeOf 11 = .ok (.istore_n 2, 1) := by decide +kernel
theorem dX7_placeOf_12 : decode cX7_placeOf 12 = .ok (.aload_n 0, 1) := by decide +kernel
theorem dX7_placeOf_13 : decode cX7_placeOf 13 = .ok (.getfield 15, 3) := by decide +kernel
theorem dX7_placeOf_16 : decode cX7_placeOf 16 = .ok (.iload_n 1, 1) := by decide +kernel
theorem dX7_placeOf_17 : decode cX7_placeOf 17 = .ok (.aload_n 0, 1) := by decide +kernel
theorem dX7_placeOf_18 : decode cX7_placeOf 18 = .ok (.getfield 18, 3) := by decide +kernel
theorem dX7_placeOf_21 : decode cX7_placeOf 21 = .ok (.idiv, 1) := by decide +kernel
theorem dX7_placeOf_22 : decode cX7_placeOf 22 = .ok (.iadd, 1) := by decide +kernel
theorem dX7_placeOf_23 : decode cX7_placeOf 23 = .ok (.istore_n 3, 1) := by decide +kernel
theorem dX7_placeOf_24 : decode cX7_placeOf 24 = .ok (.iload_n 2, 1) := by decide +kernel
theorem dX7_placeOf_25 : decode cX7_placeOf 25 = .ok (.iload_n 3, 1) := by decide +kernel
theorem dX7_placeOf_26 : decode cX7_placeOf 26 = .ok (.invokestatic 44, 3) := by decide +kernel
theorem dX7_placeOf_29 : decode cX7_placeOf 29 = .ok (.ifCond .eq 12, 3) := by decide +kernel
theorem dX7_placeOf_32 : decode cX7_placeOf 32 = .ok (.iload_n 3, 1) := by decide +kernel
theorem dX7_placeOf_33 : decode cX7_placeOf 33 = .ok (.bipush 12, 2) := by decide +kernel
theorem dX7_placeOf_35 : decode cX7_placeOf 35 = .ok (.imul, 1) := by decide +kernel
theorem dX7_placeOf_36 : decode cX7_placeOf 36 = .ok (.iload_n 2, 1) := by decide +kernel
theorem dX7_placeOf_37 : decode cX7_placeOf 37 = .ok (.iadd, 1) := by decide +kernel
theorem dX7_placeOf_38 : decode cX7_placeOf 38 = .ok (.goto 4, 3) := by decide +kernel
theorem dX7_placeOf_41 : decode cX7_placeOf 41 = .ok (.iconst (-1), 1) := by decide +kernel
theorem dX7_placeOf_42 : decode cX7_placeOf 42 = .ok (.ireturn, 1) := by decide +kernel
theorem dX7_put_0 : decode cX7_put 0 = .ok (.aload_n 0, 1) := by decide +kernel
theorem dX7_put_1 : decode cX7_put 1 = .ok (.getfield 24, 3) := by decide +kernel
theorem dX7_put_4 : decode cX7_put 4 = .ok (.aload_n 0, 1) := by decide +kernel
theorem dX7_put_5 : decode cX7_put 5 = .ok (.getfield 41, 3) := by decide +kernel
theorem dX7_put_8 : decode cX7_put 8 = .ok (.aload_n 0, 1) := by decide +kernel
theorem dX7_put_9 : decode cX7_put 9 = .ok (.getfield 48, 3) := by decide +kernel
theorem dX7_put_12 : decode cX7_put 12 = .ok (.ifCond .eq 8, 3) := by decide +kernel
theorem dX7_put_15 : decode cX7_put 15 = .ok (.bipush 7, 2) := by decide +kernel
theorem dX7_put_17 : decode cX7_put 17 = .ok (.goto 4, 3) := by decide +kernel
theorem dX7_put_20 : decode cX7_put 20 = .ok (.iload_n 1, 1) := by decide +kernel
theorem dX7_put_21 : decode cX7_put 21 = .ok (.iastore, 1) := by decide +kernel
theorem dX7_put_22 : decode cX7_put 22 = .ok (.aload_n 0, 1) := by decide +kernel
theorem dX7_put_23 : decode cX7_put 23 = .ok (.aload_n 0, 1) := by decide +kernel
theorem dX7_put_24 : decode cX7_put 24 = .ok (.iconst 1, 1) := by decide +kernel
theorem dX7_put_25 : decode cX7_put 25 = .ok (.invokevirtual 51, 3) := by decide +kernel
theorem dX7_put_28 : decode cX7_put 28 = .ok (.putfield 41, 3) := by decide +kernel
theorem dX7_put_31 : decode cX7_put 31 = .ok (.return_, 1) := by decide +kernel
theorem dX8_init_0 : decode cX8_init 0 = .ok (.aload_n 0, 1) := by decide +kernel
theorem dX8_init_1 : decode cX8_init 1 = .ok (.invokespecial 1, 3) := by decide +kernel
theorem dX8_init_4 : decode cX8_init 4 = .ok (.aload_n 0, 1) := by decide +kernel
theorem dX8_init_5 : decode cX8_init 5 = .ok (.iconst 4, 1) := by decide +kernel
theorem dX8_init_6 : decode cX8_init 6 = .ok (.anewarray 9, 3) := by decide +kernel
theorem dX8_init_9 : decode cX8_init 9 = .ok (.putfield 11, 3) := by decide +kernel
theorem dX8_init_12 : decode cX8_init 12 = .ok (.aload_n 0, 1) := by decide +kernel
theorem dX8_init_13 : decode cX8_init 13 = .ok (.bipush 6, 2) := by decide +kernel
theorem dX8_init_15 : decode cX8_init 15 = .ok (.anewarray 15, 3) := by decide +kernel
theorem dX8_init_18 : decode cX8_init 18 = .ok (.putfield 17, 3) := by decide +kernel
theorem dX8_init_21 : decode cX8_init 21 = .ok (.aload_n 0, 1) := by decide +kernel
theorem dX8_init_22 : decode cX8_init 22 = .ok (.bipush 48, 2) := by decide +kernel
theorem dX8_init_24 : decode cX8_init 24 = .ok (.newarray .boolean, 2) := by decide +kernel
theorem dX8_init_26 : decode cX8_init 26 = .ok (.putfield 21, 3) := by decide +kernel
theorem dX8_init_29 : decode cX8_init 29 = .ok (.aload_n 0, 1) := by decide +kernel
theorem dX8_init_30 : decode cX8_init 30 = .ok (.lconst 0, 1) := by decide +kernel
theorem dX8_init_31 : decode cX8_init 31 = .ok (.putfield 25, 3) := by decide +kernel
theorem dX8_init_34 : decode cX8_init 34 = .ok (.return_, 1) := by decide +kernel
theorem dX8_openSession_0 : decode cX8_openSession 0 = .ok (.iconst 0, 1) := by decide +kernel
theorem dX8_openSession_1 : decode cX8_openSession 1 = .ok (.istore_n 1, 1) := by decide +kernel
theorem dX8_openSession_2 : decode cX8_openSession 2 = .ok (.iload_n 1, 1) := by decide +kernel
theorem dX8_openSession_3 : decode cX8_openSession 3 = .ok (.iconst 4, 1) := by decide +kernel
theorem dX8_openSession_4 : decode cX8_openSession 4 = .ok (.if_icmp .ge 33, 3) := by decide +kernel
theorem dX8_openSession_7 : decode cX8_openSession 7 = .ok (.aload_n 0, 1) := by decide +kernel
theorem dX8_openSession_8 : decode cX8_openSession 8 = .ok (.getfield 11, 3) := by decide +kernel
theorem dX8_openSession_11 : decode cX8_openSession 11 = .ok (.iload_n 1, 1) := by decide +kernel
theorem dX8_openSession_12 : decode cX8_openSession 12 = .ok (.aaload, 1) := by decide +kernel
theorem dX8_openSession_13 : decode cX8_openSession 13 = .ok (.ifnonnull 18, 3) := by decide +kernel
theorem dX8_openSession_16 : decode cX8_openSession 16 = .ok (.aload_n 0, 1) := by decide +kernel
theorem dX8_openSession_17 : decode cX8_openSession 17 = .ok (.getfield 11, 3) := by decide +kernel
theorem dX8_openSession_20 : decode cX8_openSession 20 = .ok (.iload_n 1, 1) := by decide +kernel
theorem dX8_openSession_21 : decode cX8_openSession 21 = .ok (.new 9, 3) := by decide +kernel
theorem dX8_openSession_24 : decode cX8_openSession 24 = .ok (.dup, 1) := by decide +kernel
theorem dX8_openSession_25 : decode cX8_openSession 25 = .ok (.invokespecial 29, 3) := by decide +kernel
theorem dX8_openSession_28 : decode cX8_openSession 28 = .ok (.aastore, 1) := by decide +kernel
theorem dX8_openSession_29 : decode cX8_openSession 29 = .ok (.iload_n 1, 1) := by decide +kernel
theorem dX8_openSession_30 : decode cX8_openSession 30 = .ok (.ireturn, 1) := by decide +kernel
theorem dX8_openSession_31 : decode cX8_openSession 31 = .ok (.iinc 1 1, 3) := by decide +kernel
theorem dX8_openSession_34 : decode cX8_openSession 34 = .ok (.goto (-32), 3) := by decide +kernel
theorem dX8_openSession_37 : decode cX8_openSession 37 = .ok (.new 30, 3) := by decide +kernel
theorem dX8_openSession_40 : decode cX8_openSession 40 = .ok (.dup, 1) := by decide +kernel
theorem dX8_openSession_41 : decode cX8_openSession 41 = .ok (.ldc 32, 2) := by decide +kernel
theorem dX8_openSession_43 : decode cX8_openSession 43 = .ok (.invokespecial 34, 3) := by decide +kernel
theorem dX8_openSession_46 : decode cX8_openSession 46 = .ok (.athrow, 1) := by decide +kernel
theorem dX8_openWindow_0 : decode cX8_openWindow 0 = .ok (.aload_n 0, 1) := by decide +kernel
theorem dX8_openWindow_1 : decode cX8_openWindow 1 = .ok (.iload_n 1, 1) := by decide +kernel
theorem dX8_openWindow_2 : decode cX8_openWindow 2 = .ok (.invokevirtual 37, 3) := by decide +kernel
theorem dX8_openWindow_5 : decode cX8_openWindow 5 = .ok (.astore 6, 2) := by decide +kernel
theorem dX8_openWindow_7 : decode cX8_openWindow 7 = .ok (.iload_n 2, 1) := by decide +kernel
theorem dX8_openWindow_8 : decode cX8_openWindow 8 = .ok (.iload_n 3, 1) := by decide +kernel
theorem dX8_openWindow_9 : decode cX8_openWindow 9 = .ok (.invokestatic 41, 3) := by decide +kernel
theorem dX8_openWindow_12 : decode cX8_openWindow 12 = .ok (.ifCond .eq 13, 3) := by decide +kernel
theorem dX8_openWindow_15 : decode cX8_openWindow 15 = .ok (.iload 4, 2) := by decide +kernel
theorem dX8_openWindow_17 : decode cX8_openWindow 17 = .ok (.iload 5, 2) := by decide +kernel
theorem dX8_openWindow_19 : decode cX8_openWindow 19 = .ok (.invokestatic 45, 3) := by decide +kernel
theorem dX8_openWindow_22 : decode cX8_openWindow 22 = .ok (.ifCond .ne 13, 3) := by decide +kernel
theorem dX8_openWindow_25 : decode cX8_openWindow 25 = .ok (.new 48, 3) := by decide +kernel
theorem dX8_openWindow_28 : decode cX8_openWindow 28 = .ok (.dup, 1) := by decide +kernel
theorem dX8_openWindow_29 : decode cX8_openWindow 29 = .ok (.ldc 50, 2) := by decide +kernel
theorem dX8_openWindow_31 : decode cX8_openWindow 31 = .ok (.invokespecial 52, 3) := by decide +kernel
theorem dX8_openWindow_34 : decode cX8_openWindow 34 = .ok (.athrow, 1) := by decide +kernel
theorem dX8_openWindow_35 : decode cX8_openWindow 35 = .ok (.aload 6, 2) := by decide +kernel
theorem dX8_openWindow_37 : decode cX8_openWindow 37 = .ok (.getfield 53, 3) := by decide +kernel
theorem dX8_openWindow_40 : decode cX8_openWindow 40 = .ok (.bipush 6, 2) := by decide +kernel
theorem dX8_openWindow_42 : decode cX8_openWindow 42 = .ok (.if_icmp .lt 13, 3) := by decide +kernel
theorem dX8_openWindow_45 : decode cX8_openWindow 45 = .ok (.new 30, 3) := by decide +kernel
theorem dX8_openWindow_48 : decode cX8_openWindow 48 = .ok (.dup, 1) := by decide +kernel
theorem dX8_openWindow_49 : decode cX8_openWindow 49 = .ok (.ldc 57, 2) := by decide +kernel
theorem dX8_openWindow_51 : decode cX8_openWindow 51 = .ok (.invokespecial 34, 3) := by decide +kernel
theorem dX8_openWindow_54 : decode cX8_openWindow 54 = .ok (.athrow, 1) := by decide +kernel
theorem dX8_openWindow_55 : decode cX8_openWindow 55 = .ok (.aload 6, 2) := by decide +kernel
theorem dX8_openWindow_57 : decode cX8_openWindow 57 = .ok (.new 59, 3) := by decide +kernel
theorem dX8_openWindow_60 : decode cX8_openWindow 60 = .ok (.dup, 1) := by decide +kernel
theorem dX8_openWindow_61 : decode cX8_openWindow 61 = .ok (.iload_n 2, 1) := by decide +kernel
theorem dX8_openWindow_62 : decode cX8_openWindow 62 = .ok (.iload_n 3, 1) := by decide +kernel
theorem dX8_openWindow_63 : decode cX8_openWindow 63 = .ok (.iload 4, 2) := by decide +kernel
theorem dX8_openWindow_65 : decode cX8_openWindow 65 = .ok (.iload 5, 2) := by decide +kernel
theorem dX8_openWindow_67 : decode cX8_openWindow 67 = .ok (.invokespecial 61, 3) := by decide +kernel
theorem dX8_openWindow_70 : decode cX8_openWindow 70 = .ok (.invokevirtual 64, 3) := by decide +kernel
theorem dX8_openWindow_73 : decode cX8_openWindow 73 = .ok (.ireturn, 1) := by decide +kernel
theorem dX8_closeWindow_0 : decode cX8_closeWindow 0 = .ok (.aload_n 0, 1) := by decide +kernel
theorem dX8_closeWindow_1 : decode cX8_closeWindow 1 = .ok (.iload_n 1, 1) := by decide +kernel
theorem dX8_closeWindow_2 : decode cX8_closeWindow 2 = .ok (.invokevirtual 37, 3) := by decide +kernel
theorem dX8_closeWindow_5 : decode cX8_closeWindow 5 = .ok (.astore_n 3, 1) := by decide +kernel
theorem dX8_closeWindow_6 : decode cX8_closeWindow 6 = .ok (.aload_n 3, 1) := by decide +kernel
theorem dX8_closeWindow_7 : decode cX8_closeWindow 7 = .ok (.iload_n 2, 1) := by decide +kernel
theorem dX8_closeWindow_8 : decode cX8_closeWindow 8 = .ok (.invokestatic 68, 3) := by decide +kernel
theorem dX8_closeWindow_11 : decode cX8_closeWindow 11 = .ok (.astore 4, 2) := by decide +kernel
theorem dX8_closeWindow_13 : decode cX8_closeWindow 13 = .ok (.aload 4, 2) := by decide +kernel
theorem dX8_closeWindow_15 : decode cX8_closeWindow 15 = .ok (.iconst 0, 1) := by decide +kernel
theorem dX8_closeWindow_16 : decode cX8_closeWindow 16 = .ok (.putfield 72, 3) := by decide +kernel
theorem dX8_closeWindow_19 : decode cX8_closeWindow 19 = .ok (.aload_n 3, 1) := by decide +kernel
theorem dX8_closeWindow_20 : decode cX8_closeWindow 20 = .ok (.aload 4, 2) := by decide +kernel
theorem dX8_closeWindow_22 : decode cX8_closeWindow 22 = .ok (.invokevirtual 76, 3) := by decide +kernel
theorem dX8_closeWindow_25 : decode cX8_closeWindow 25 = .ok (.aload_n 3, 1) := by decide +kernel
theorem dX8_closeWindow_26 : decode cX8_closeWindow 26 = .ok (.invokevirtual 80, 3) := by decide +kernel
theorem dX8_closeWindow_29 : decode cX8_closeWindow 29 = .ok (.pop, 1) := by decide +kernel
theorem dX8_closeWindow_30 : decode cX8_closeWindow 30 = .ok (.aload 4, 2) := by decide +kernel
theorem dX8_closeWindow_32 : decode cX8_closeWindow 32 = .ok (.getfield 84, 3) := by decide +kernel
theorem dX8_closeWindow_35 : decode cX8_closeWindow 35 = .ok (.ireturn, 1) := by decide +kernel
theorem dX8_moveWindow_0 : decode cX8_moveWindow 0 = .ok (.aload_n 0, 1) := by decide +kernel
theorem dX8_moveWindow_1 : decode cX8_moveWindow 1 = .ok (.iload_n 1, 1) := by decide +kernel
theorem dX8_moveWindow_2 : decode cX8_moveWindow 2 = .ok (.invokevirtual 37, 3) := by decide +kernel
theorem dX8_moveWindow_5 : decode cX8_moveWindow 5 = .ok (.astore 5, 2) := by decide +kernel
theorem dX8_moveWindow_7 : decode cX8_moveWindow 7 = .ok (.aload 5, 2) := by decide +kernel
theorem dX8_moveWindow_9 : decode cX8_moveWindow 9 = .ok (.iload_n 2, 1) := by decide +kernel
theorem dX8_moveWindow_10 : decode cX8_moveWindow 10 = .ok (.invokestatic 68, 3) := by decide +kernel
theorem dX8_moveWindow_13 : decode cX8_moveWindow 13 = .ok (.astore 6, 2) := by decide +kernel
theorem dX8_moveWindow_15 : decode cX8_moveWindow 15 = .ok (.iload_n 3, 1) := by decide +kernel
theorem dX8_moveWindow_16 : decode cX8_moveWindow 16 = .ok (.iload 4, 2) := by decide +kernel
theorem dX8_moveWindow_18 : decode cX8_moveWindow 18 = .ok (.invokestatic 41, 3) := by decide +kernel
theorem dX8_moveWindow_21 : decode cX8_moveWindow 21 = .ok (.ifCond .ne 13, 3) := by decide +kernel
theorem dX8_moveWindow_24 : decode cX8_moveWindow 24 = .ok (.new 48, 3) := by decide +kernel
theorem dX8_moveWindow_27 : decode cX8_moveWindow 27 = .ok (.dup, 1) := by decide +kernel
theorem dX8_moveWindow_28 : decode cX8_moveWindow 28 = .ok (.ldc 50, 2) := by decide +kernel
theorem dX8_moveWindow_30 : decode cX8_moveWindow 30 = .ok (.invokespecial 52, 3) := by decide +kernel
theorem dX8_moveWindow_33 : decode cX8_moveWindow 33 = .ok (.athrow, 1) := by decide +kernel
theorem dX8_moveWindow_34 : decode cX8_moveWindow 34 = .ok (.aload 6, 2) := by decide +kernel
theorem dX8_moveWindow_36 : decode cX8_moveWindow 36 = .ok (.iload_n 3, 1) := by decide +kernel
theorem dX8_moveWindow_37 : decode cX8_moveWindow 37 = .ok (.putfield 87, 3) := by decide +kernel
theorem dX8_moveWindow_40 : decode cX8_moveWindow 40 = .ok (.aload 6, 2) := by decide +kernel
theorem dX8_moveWindow_42 : decode cX8_moveWindow 42 = .ok (.iload 4, 2) := by decide +kernel
theorem dX8_moveWindow_44 : decode cX8_moveWindow 44 = .ok (.putfield 90, 3) := by decide +kernel
theorem dX8_moveWindow_47 : decode cX8_moveWindow 47 = .ok (.aload 5, 2) := by decide +kernel
theorem dX8_moveWindow_49 : decode cX8_moveWindow 49 = .ok (.invokevirtual 80, 3) := by decide +kernel
theorem dX8_moveWindow_52 : decode cX8_moveWindow 52 = .ok (.ireturn, 1) := by decide +kernel
theorem dX8_raise_0 : decode cX8_raise 0 = .ok (.aload_n 0, 1) := by decide +kernel
theorem dX8_raise_1 : decode cX8_raise 1 = .ok (.iload_n 1, 1) := by decide +kernel
theorem dX8_raise_2 : decode cX8_raise 2 = .ok (.invokevirtual 37, 3) := by decide +kernel
theorem dX8_raise_5 : decode cX8_raise 5 = .ok (.astore_n 3, 1) := by decide +kernel
theorem dX8_raise_6 : decode cX8_raise 6 = .ok (.aload_n 3, 1) := by decide +kernel
theorem dX8_raise_7 : decode cX8_raise 7 = .ok (.iload_n 2, 1) := by decide +kernel
theorem dX8_raise_8 : decode cX8_raise 8 = .ok (.invokestatic 68, 3) := by decide +kernel
theorem dX8_raise_11 : decode cX8_raise 11 = .ok (.astore 4, 2) := by decide +kernel
theorem dX8_raise_13 : decode cX8_raise 13 = .ok (.aload_n 3, 1) := by decide +kernel
theorem dX8_raise_14 : decode cX8_raise 14 = .ok (.aload 4, 2) := by decide +kernel
theorem dX8_raise_16 : decode cX8_raise 16 = .ok (.invokevirtual 93, 3) := by decide +kernel
theorem dX8_raise_19 : decode cX8_raise 19 = .ok (.ifCond .ne 7, 3) := by decide +kernel
theorem dX8_raise_22 : decode cX8_raise 22 = .ok (.iconst 1, 1) := by decide +kernel
theorem dX8_raise_23 : decode cX8_raise 23 = .ok (.goto 4, 3) := by decide +kernel
theorem dX8_raise_26 : decode cX8_raise 26 = .ok (.iconst 0, 1) := by decide +kernel
theorem dX8_raise_27 : decode cX8_raise 27 = .ok (.istore 5, 2) := by decide +kernel
theorem dX8_raise_29 : decode cX8_raise 29 = .ok (.aload_n 3, 1) := by decide +kernel
theorem dX8_raise_30 : decode cX8_raise 30 = .ok (.aload 4, 2) := by decide +kernel
theorem dX8_raise_32 : decode cX8_raise 32 = .ok (.invokevirtual 76, 3) := by decide +kernel
theorem dX8_raise_35 : decode cX8_raise 35 = .ok (.aload_n 3, 1) := by decide +kernel
theorem dX8_raise_36 : decode cX8_raise 36 = .ok (.getfield 97, 3) := by decide +kernel
theorem dX8_raise_39 : decode cX8_raise 39 = .ok (.aload 4, 2) := by decide +kernel
theorem dX8_raise_41 : decode cX8_raise 41 = .ok (.invokevirtual 101, 3) := by decide +kernel
theorem dX8_raise_44 : decode cX8_raise 44 = .ok (.pop, 1) := by decide +kernel
theorem dX8_raise_45 : decode cX8_raise 45 = .ok (.aload_n 3, 1) := by decide +kernel
theorem dX8_raise_46 : decode cX8_raise 46 = .ok (.invokevirtual 80, 3) := by decide +kernel
theorem dX8_raise_49 : decode cX8_raise 49 = .ok (.pop, 1) := by decide +kernel
theorem dX8_raise_50 : decode cX8_raise 50 = .ok (.iload 5, 2) := by decide +kernel
theorem dX8_raise_52 : decode cX8_raise 52 = .ok (.ireturn, 1) := by decide +kernel
theorem dX8_show_0 : decode cX8_show 0 = .ok (.aload_n 0, 1) := by decide +kernel
theorem dX8_show_1 : decode cX8_show 1 = .ok (.iload_n 1, 1) := by decide +kernel
theorem dX8_show_2 : decode cX8_show 2 = .ok (.invokevirtual 37, 3) := by decide +kernel
theorem dX8_show_5 : decode cX8_show 5 = .ok (.astore 4, 2) := by decide +kernel
theorem dX8_show_7 : decode cX8_show 7 = .ok (.aload 4, 2) := by decide +kernel
theorem dX8_show_9 : decode cX8_show 9 = .ok (.iload_n 2, 1) := by decide +kernel
theorem dX8_show_10 : decode cX8_show 10 = .ok (.invokestatic 68, 3) := by decide +kernel
theorem dX8_show_13 : decode cX8_show 13 = .ok (.astore 5, 2) := by decide +kernel
theorem dX8_show_15 : decode cX8_show 15 = .ok (.aload 5, 2) := by decide +kernel
theorem dX8_show_17 : decode cX8_show 17 = .ok (.getfield 84, 3) := by decide +kernel
theorem dX8_show_20 : decode cX8_show 20 = .ok (.istore 6, 2) := by decide +kernel
theorem dX8_show_22 : decode cX8_show 22 = .ok (.aload 5, 2) := by decide +kernel
theorem dX8_show_24 : decode cX8_show 24 = .ok (.iload_n 3, 1) := by decide +kernel
theorem dX8_show_25 : decode cX8_show 25 = .ok (.putfield 84, 3) := by decide +kernel
theorem dX8_show_28 : decode cX8_show 28 = .ok (.aload 4, 2) := by decide +kernel
theorem dX8_show_30 : decode cX8_show 30 = .ok (.invokevirtual 80, 3) := by decide +kernel
theorem dX8_show_33 : decode cX8_show 33 = .ok (.pop, 1) := by decide +kernel
theorem dX8_show_34 : decode cX8_show 34 = .ok (.iload 6, 2) := by decide +kernel
theorem dX8_show_36 : decode cX8_show 36 = .ok (.ireturn, 1) := by decide +kernel
theorem dX8_mark_0 : decode cX8_mark 0 = .ok (.aload_n 0, 1) := by decide +kernel
theorem dX8_mark_1 : decode cX8_mark 1 = .ok (.iload_n 1, 1) := by decide +kernel
theorem dX8_mark_2 : decode cX8_mark 2 = .ok (.invokevirtual 37, 3) := by decide +kernel
theorem dX8_mark_5 : decode cX8_mark 5 = .ok (.iload_n 2, 1) := by decide +kernel
theorem dX8_mark_6 : decode cX8_mark 6 = .ok (.invokestatic 68, 3) := by decide +kernel
theorem dX8_mark_9 : decode cX8_mark 9 = .ok (.astore 5, 2) := by decide +kernel
theorem dX8_mark_11 : decode cX8_mark 11 = .ok (.aload 5, 2) := by decide +kernel
theorem dX8_mark_13 : decode cX8_mark 13 = .ok (.getfield 107, 3) := by decide +kernel
theorem dX8_mark_16 : decode cX8_mark 16 = .ok (.iload_n 3, 1) := by decide +kernel
theorem dX8_mark_17 : decode cX8_mark 17 = .ok (.if_icmp .ne 13, 3) := by decide +kernel
theorem dX8_mark_20 : decode cX8_mark 20 = .ok (.aload 5, 2) := by decide +kernel
theorem dX8_mark_22 : decode cX8_mark 22 = .ok (.getfield 110, 3) := by decide +kernel
theorem dX8_mark_25 : decode cX8_mark 25 = .ok (.iload 4, 2) := by decide +kernel
theorem dX8_mark_27 : decode cX8_mark 27 = .ok (.if_icmp .eq 7, 3) := by decide +kernel
theorem dX8_mark_30 : decode cX8_mark 30 = .ok (.iconst 1, 1) := by decide +kernel
theorem dX8_mark_31 : decode cX8_mark 31 = .ok (.goto 4, 3) := by decide +kernel
theorem dX8_mark_34 : decode cX8_mark 34 = .ok (.iconst 0, 1) := by decide +kernel
theorem dX8_mark_35 : decode cX8_mark 35 = .ok (.istore 6, 2) := by decide +kernel
theorem dX8_mark_37 : decode cX8_mark 37 = .ok (.aload 5, 2) := by decide +kernel
theorem dX8_mark_39 : decode cX8_mark 39 = .ok (.iload_n 3, 1) := by decide +kernel
theorem dX8_mark_40 : decode cX8_mark 40 = .ok (.putfield 107, 3) := by decide +kernel
theorem dX8_mark_43 : decode cX8_mark 43 = .ok (.aload 5, 2) := by decide +kernel
theorem dX8_mark_45 : decode cX8_mark 45 = .ok (.iload 4, 2) := by decide +kernel
theorem dX8_mark_47 : decode cX8_mark 47 = .ok (.putfield 110, 3) := by decide +kernel
theorem dX8_mark_50 : decode cX8_mark 50 = .ok (.iload 6, 2) := by decide +kernel
theorem dX8_mark_52 : decode cX8_mark 52 = .ok (.ireturn, 1) := by decide +kernel
theorem dX8_draw_0 : decode cX8_draw 0 = .ok (.aload_n 0, 1) := by decide +kernel
theorem dX8_draw_1 : decode cX8_draw 1 = .ok (.iload_n 1, 1) := by decide +kernel
theorem dX8_draw_2 : decode cX8_draw 2 = .ok (.invokevirtual 37, 3) := by decide +kernel
theorem dX8_draw_5 : decode cX8_draw 5 = .ok (.astore 8, 2) := by decide +kernel
theorem dX8_draw_7 : decode cX8_draw 7 = .ok (.aload 8, 2) := by decide +kernel
theorem dX8_draw_9 : decode cX8_draw 9 = .ok (.iload_n 2, 1) := by decide +kernel
theorem dX8_draw_10 : decode cX8_draw 10 = .ok (.invokestatic 68, 3) := by decide +kernel
theorem dX8_draw_13 : decode cX8_draw 13 = .ok (.astore 9, 2) := by decide +kernel
theorem dX8_draw_15 : decode cX8_draw 15 = .ok (.iload_n 3, 1) := by decide +kernel
theorem dX8_draw_16 : decode cX8_draw 16 = .ok (.iload 4, 2) := by decide +kernel
theorem dX8_draw_18 : decode cX8_draw 18 = .ok (.invokestatic 113, 3) := by decide +kernel
theorem dX8_draw_21 : decode cX8_draw 21 = .ok (.ifCond .eq 25, 3) := by decide +kernel
theorem dX8_draw_24 : decode cX8_draw 24 = .ok (.iload 5, 2) := by decide +kernel
theorem dX8_draw_26 : decode cX8_draw 26 = .ok (.iload 6, 2) := by decide +kernel
theorem dX8_draw_28 : decode cX8_draw 28 = .ok (.invokestatic 45, 3) := by decide +kernel
theorem dX8_draw_31 : decode cX8_draw 31 = .ok (.ifCond .eq 15, 3) := by decide +kernel
theorem dX8_draw_34 : decode cX8_draw 34 = .ok (.iload 7, 2) := by decide +kernel
theorem dX8_draw_36 : decode cX8_draw 36 = .ok (.iconst 0, 1) := by decide +kernel
theorem dX8_draw_37 : decode cX8_draw 37 = .ok (.sipush 255, 3) := by decide +kernel
theorem dX8_draw_40 : decode cX8_draw 40 = .ok (.invokestatic 116, 3) := by decide +kernel
theorem dX8_draw_43 : decode cX8_draw 43 = .ok (.ifCond .ne 13, 3) := by decide +kernel
theorem dX8_draw_46 : decode cX8_draw 46 = .ok (.new 48, 3) := by decide +kernel
theorem dX8_draw_49 : decode cX8_draw 49 = .ok (.dup, 1) := by decide +kernel
theorem dX8_draw_50 : decode cX8_draw 50 = .ok (.ldc 50, 2) := by decide +kernel
theorem dX8_draw_52 : decode cX8_draw 52 = .ok (.invokespecial 52, 3) := by decide +kernel
theorem dX8_draw_55 : decode cX8_draw 55 = .ok (.athrow, 1) := by decide +kernel
theorem dX8_draw_56 : decode cX8_draw 56 = .ok (.aload 9, 2) := by decide +kernel
theorem dX8_draw_58 : decode cX8_draw 58 = .ok (.iload_n 3, 1) := by decide +kernel
theorem dX8_draw_59 : decode cX8_draw 59 = .ok (.iload 4, 2) := by decide +kernel
theorem dX8_draw_61 : decode cX8_draw 61 = .ok (.iload 5, 2) := by decide +kernel
theorem dX8_draw_63 : decode cX8_draw 63 = .ok (.iload 6, 2) := by decide +kernel
theorem dX8_draw_65 : decode cX8_draw 65 = .ok (.iload 7, 2) := by decide +kernel
theorem dX8_draw_67 : decode cX8_draw 67 = .ok (.invokevirtual 120, 3) := by decide +kernel
theorem dX8_draw_70 : decode cX8_draw 70 = .ok (.istore 10, 2) := by decide +kernel
theorem dX8_draw_72 : decode cX8_draw 72 = .ok (.aload 8, 2) := by decide +kernel
theorem dX8_draw_74 : decode cX8_draw 74 = .ok (.invokevirtual 80, 3) := by decide +kernel
theorem dX8_draw_77 : decode cX8_draw 77 = .ok (.pop, 1) := by decide +kernel
theorem dX8_draw_78 : decode cX8_draw 78 = .ok (.iload 10, 2) := by decide +kernel
theorem dX8_draw_80 : decode cX8_draw 80 = .ok (.ireturn, 1) := by decide +kernel
theorem dX8_screen_0 : decode cX8_screen 0 = .ok (.aload_n 0, 1) := by decide +kernel
theorem dX8_screen_1 : decode cX8_screen 1 = .ok (.iload_n 1, 1) := by decide +kernel
theorem dX8_screen_2 : decode cX8_screen 2 = .ok (.invokevirtual 37, 3) := by decide +kernel
theorem dX8_screen_5 : decode cX8_screen 5 = .ok (.astore 4, 2) := by decide +kernel
theorem dX8_screen_7 : decode cX8_screen 7 = .ok (.aload 4, 2) := by decide +kernel
theorem dX8_screen_9 : decode cX8_screen 9 = .ok (.getfield 124, 3) := by decide +kernel
theorem dX8_screen_12 : decode cX8_screen 12 = .ok (.iload_n 2, 1) := by decide +kernel
theorem dX8_screen_13 : decode cX8_screen 13 = .ok (.iload_n 3, 1) := by decide +kernel
theorem dX8_screen_14 : decode cX8_screen 14 = .ok (.invokestatic 128, 3) := by decide +kernel
theorem dX8_screen_17 : decode cX8_screen 17 = .ok (.iaload, 1) := by decide +kernel
theorem dX8_screen_18 : decode cX8_screen 18 = .ok (.ireturn, 1) := by decide +kernel
theorem dX8_join_0 : decode cX8_join 0 = .ok (.aload_n 0, 1) := by decide +kernel
theorem dX8_join_1 : decode cX8_join 1 = .ok (.iload_n 1, 1) := by decide +kernel
theorem dX8_join_2 : decode cX8_join 2 = .ok (.invokevirtual 37, 3) := by decide +kernel
theorem dX8_join_5 : decode cX8_join 5 = .ok (.astore_n 3, 1) := by decide +kernel
theorem dX8_join_6 : decode cX8_join 6 = .ok (.iload_n 2, 1) := by decide +kernel
theorem dX8_join_7 : decode cX8_join 7 = .ok (.iconst 0, 1) := by decide +kernel
theorem dX8_join_8 : decode cX8_join 8 = .ok (.bipush 9, 2) := by decide +kernel
theorem dX8_join_10 : decode cX8_join 10 = .ok (.invokestatic 116, 3) := by decide +kernel
theorem dX8_join_13 : decode cX8_join 13 = .ok (.ifCond .ne 13, 3) := by decide +kernel
theorem dX8_join_16 : decode cX8_join 16 = .ok (.new 48, 3) := by decide +kernel
theorem dX8_join_19 : decode cX8_join 19 = .ok (.dup, 1) := by decide +kernel
theorem dX8_join_20 : decode cX8_join 20 = .ok (.ldc 132, 2) := by decide +kernel
theorem dX8_join_22 : decode cX8_join 22 = .ok (.invokespecial 52, 3) := by decide +kernel
theorem dX8_join_25 : decode cX8_join 25 = .ok (.athrow, 1) := by decide +kernel
theorem dX8_join_26 : decode cX8_join 26 = .ok (.iconst 0, 1) := by decide +kernel
theorem dX8_join_27 : decode cX8_join 27 = .ok (.istore 4, 2) := by decide +kernel
theorem dX8_join_29 : decode cX8_join 29 = .ok (.iload 4, 2) := by decide +kernel
theorem dX8_join_31 : decode cX8_join 31 = .ok (.bipush 6, 2) := by decide +kernel
theorem dX8_join_33 : decode cX8_join 33 = .ok (.if_icmp .ge 38, 3) := by decide +kernel
theorem dX8_join_36 : decode cX8_join 36 = .ok (.aload_n 0, 1) := by decide +kernel
theorem dX8_join_37 : decode cX8_join 37 = .ok (.getfield 17, 3) := by decide +kernel
theorem dX8_join_40 : decode cX8_join 40 = .ok (.iload 4, 2) := by decide +kernel
theorem dX8_join_42 : decode cX8_join 42 = .ok (.aaload, 1) := by decide +kernel
theorem dX8_join_43 : decode cX8_join 43 = .ok (.ifnonnull 22, 3) := by decide +kernel
theorem dX8_join_46 : decode cX8_join 46 = .ok (.aload_n 0, 1) := by decide +kernel
theorem dX8_join_47 : decode cX8_join 47 = .ok (.getfield 17, 3) := by decide +kernel
theorem dX8_join_50 : decode cX8_join 50 = .ok (.iload 4, 2) := by decide +kernel
theorem dX8_join_52 : decode cX8_join 52 = .ok (.new 15, 3) := by decide +kernel
theorem dX8_join_55 : decode cX8_join 55 = .ok (.dup, 1) := by decide +kernel
theorem dX8_join_56 : decode cX8_join 56 = .ok (.aload_n 3, 1) := by decide +kernel
theorem dX8_join_57 : decode cX8_join 57 = .ok (.iload_n 2, 1) := by decide +kernel
theorem dX8_join_58 : decode cX8_join 58 = .ok (.invokespecial 134, 3) := by decide +kernel
theorem dX8_join_61 : decode cX8_join 61 = .ok (.aastore, 1) := by decide +kernel
theorem dX8_join_62 : decode cX8_join 62 = .ok (.iload 4, 2) := by decide +kernel
theorem dX8_join_64 : decode cX8_join 64 = .ok (.ireturn, 1) := by decide +kernel
theorem dX8_join_65 : decode cX8_join 65 = .ok (.iinc 4 1, 3) := by decide +kernel
theorem dX8_join_68 : decode cX8_join 68 = .ok (.goto (-39), 3) := by decide +kernel
theorem dX8_join_71 : decode cX8_join 71 = .ok (.new 30, 3) := by decide +kernel
theorem dX8_join_74 : decode cX8_join 74 = .ok (.dup, 1) := by decide +kernel
theorem dX8_join_75 : decode cX8_join 75 = .ok (.ldc 137, 2) := by decide +kernel
theorem dX8_join_77 : decode cX8_join 77 = .ok (.invokespecial 34, 3) := by decide +kernel
theorem dX8_join_80 : decode cX8_join 80 = .ok (.athrow, 1) := by decide +kernel
theorem dX8_bid_0 : decode cX8_bid 0 = .ok (.aload_n 0, 1) := by decide +kernel
theorem dX8_bid_1 : decode cX8_bid 1 = .ok (.iload_n 1, 1) := by decide +kernel
theorem dX8_bid_2 : decode cX8_bid 2 = .ok (.invokevirtual 139, 3) := by decide +kernel
theorem dX8_bid_5 : decode cX8_bid 5 = .ok (.astore_n 3, 1) := by decide +kernel
theorem dX8_bid_6 : decode cX8_bid 6 = .ok (.iload_n 2, 1) := by decide +kernel
theorem dX8_bid_7 : decode cX8_bid 7 = .ok (.iconst 0, 1) := by decide +kernel
theorem dX8_bid_8 : decode cX8_bid 8 = .ok (.bipush 9, 2) := by decide +kernel
theorem dX8_bid_10 : decode cX8_bid 10 = .ok (.invokestatic 116, 3) := by decide +kernel
theorem dX8_bid_13 : decode cX8_bid 13 = .ok (.ifCond .ne 13, 3) := by decide +kernel
theorem dX8_bid_16 : decode cX8_bid 16 = .ok (.new 48, 3) := by decide +kernel
theorem dX8_bid_19 : decode cX8_bid 19 = .ok (.dup, 1) := by decide +kernel
theorem dX8_bid_20 : decode cX8_bid 20 = .ok (.ldc 132, 2) := by decide +kernel
theorem dX8_bid_22 : decode cX8_bid 22 = .ok (.invokespecial 52, 3) := by decide +kernel
theorem dX8_bid_25 : decode cX8_bid 25 = .ok (.athrow, 1) := by decide +kernel
theorem dX8_bid_26 : decode cX8_bid 26 = .ok (.aload_n 3, 1) := by decide +kernel
theorem dX8_bid_27 : decode cX8_bid 27 = .ok (.getfield 143, 3) := by decide +kernel
theorem dX8_bid_30 : decode cX8_bid 30 = .ok (.istore 4, 2) := by decide +kernel
theorem dX8_bid_32 : decode cX8_bid 32 = .ok (.aload_n 3, 1) := by decide +kernel
theorem dX8_bid_33 : decode cX8_bid 33 = .ok (.iload_n 2, 1) := by decide +kernel
theorem dX8_bid_34 : decode cX8_bid 34 = .ok (.putfield 143, 3) := by decide +kernel
theorem dX8_bid_37 : decode cX8_bid 37 = .ok (.iload 4, 2) := by decide +kernel
theorem dX8_bid_39 : decode cX8_bid 39 = .ok (.ireturn, 1) := by decide +kernel
theorem dX8_money_0 : decode cX8_money 0 = .ok (.aload_n 0, 1) := by decide +kernel
theorem dX8_money_1 : decode cX8_money 1 = .ok (.iload_n 1, 1) := by decide +kernel
theorem dX8_money_2 : decode cX8_money 2 = .ok (.invokevirtual 139, 3) := by decide +kernel
theorem dX8_money_5 : decode cX8_money 5 = .ok (.getfield 146, 3) := by decide +kernel
theorem dX8_money_8 : decode cX8_money 8 = .ok (.ireturn, 1) := by decide +kernel
theorem dX8_picture_0 : decode cX8_picture 0 = .ok (.aload_n 0, 1) := by decide +kernel
theorem dX8_picture_1 : decode cX8_picture 1 = .ok (.iload_n 1, 1) := by decide +kernel
theorem dX8_picture_2 : decode cX8_picture 2 = .ok (.invokevirtual 139, 3) := by decide +kernel
theorem dX8_picture_5 : decode cX8_picture 5 = .ok (.astore 4, 2) := by decide +kernel
theorem dX8_picture_7 : decode cX8_picture 7 = .ok (.aload 4, 2) := by decide +kernel
theorem dX8_picture_9 : decode cX8_picture 9 = .ok (.getfield 149, 3) := by decide +kernel
theorem dX8_picture_12 : decode cX8_picture 12 = .ok (.iload_n 2, 1) := by decide +kernel
theorem dX8_picture_13 : decode cX8_picture 13 = .ok (.iload_n 3, 1) := by decide +kernel
theorem dX8_picture_14 : decode cX8_picture 14 = .ok (.invokestatic 128, 3) := by decide +kernel
theorem dX8_picture_17 : decode cX8_picture 17 = .ok (.iaload, 1) := by decide +kernel
theorem dX8_picture_18 : decode cX8_picture 18 = .ok (.ireturn, 1) := by decide +kernel
theorem dX8_seen_0 : decode cX8_seen 0 = .ok (.aload_n 0, 1) := by decide +kernel
theorem dX8_seen_1 : decode cX8_seen 1 = .ok (.iload_n 1, 1) := by decide +kernel
theorem dX8_seen_2 : decode cX8_seen 2 = .ok (.invokevirtual 139, 3) := by decide +kernel
theorem dX8_seen_5 : decode cX8_seen 5 = .ok (.astore 4, 2) := by decide +kernel
theorem dX8_seen_7 : decode cX8_seen 7 = .ok (.iload_n 2, 1) := by decide +kernel
theorem dX8_seen_8 : decode cX8_seen 8 = .ok (.iload_n 3, 1) := by decide +kernel
theorem dX8_seen_9 : decode cX8_seen 9 = .ok (.invokestatic 128, 3) := by decide +kernel
theorem dX8_seen_12 : decode cX8_seen 12 = .ok (.istore 5, 2) := by decide +kernel
theorem dX8_seen_14 : decode cX8_seen 14 = .ok (.aload 4, 2) := by decide +kernel
theorem dX8_seen_16 : decode cX8_seen 16 = .ok (.getfield 150, 3) := by decide +kernel
theorem dX8_seen_19 : decode cX8_seen 19 = .ok (.aload 4, 2) := by decide +kernel
theorem dX8_seen_21 : decode cX8_seen 21 = .ok (.iload 5, 2) := by decide +kernel
theorem dX8_seen_23 : decode cX8_seen 23 = .ok (.invokevirtual 154, 3) := by decide +kernel
theorem dX8_seen_26 : decode cX8_seen 26 = .ok (.astore 6, 2) := by decide +kernel
theorem dX8_seen_28 : decode cX8_seen 28 = .ok (.aload 6, 2) := by decide +kernel
theorem dX8_seen_30 : decode cX8_seen 30 = .ok (.ifnonnull 14, 3) := by decide +kernel
theorem dX8_seen_33 : decode cX8_seen 33 = .ok (.aload 4, 2) := by decide +kernel
theorem dX8_seen_35 : decode cX8_seen 35 = .ok (.getfield 149, 3) := by decide +kernel
theorem dX8_seen_38 : decode cX8_seen 38 = .ok (.iload 5, 2) := by decide +kernel
theorem dX8_seen_40 : decode cX8_seen 40 = .ok (.iaload, 1) := by decide +kernel
theorem dX8_seen_41 : decode cX8_seen 41 = .ok (.goto 8, 3) := by decide +kernel
theorem dX8_seen_44 : decode cX8_seen 44 = .ok (.aload 6, 2) := by decide +kernel
theorem dX8_seen_46 : decode cX8_seen 46 = .ok (.getfield 158, 3) := by decide +kernel
theorem dX8_seen_49 : decode cX8_seen 49 = .ok (.ireturn, 1) := by decide +kernel
theorem dX8_behind_0 : decode cX8_behind 0 = .ok (.aload_n 0, 1) := by decide +kernel
theorem dX8_behind_1 : decode cX8_behind 1 = .ok (.iload_n 1, 1) := by decide +kernel
theorem dX8_behind_2 : decode cX8_behind 2 = .ok (.invokevirtual 139, 3) := by decide +kernel
theorem dX8_behind_5 : decode cX8_behind 5 = .ok (.invokevirtual 163, 3) := by decide +kernel
theorem dX8_behind_8 : decode cX8_behind 8 = .ok (.ireturn, 1) := by decide +kernel
theorem dX8_next_0 : decode cX8_next 0 = .ok (.aload_n 0, 1) := by decide +kernel
theorem dX8_next_1 : decode cX8_next 1 = .ok (.iload_n 1, 1) := by decide +kernel
theorem dX8_next_2 : decode cX8_next 2 = .ok (.invokevirtual 166, 3) := by decide +kernel
theorem dX8_next_5 : decode cX8_next 5 = .ok (.getfield 170, 3) := by decide +kernel
theorem dX8_next_8 : decode cX8_next 8 = .ok (.ireturn, 1) := by decide +kernel
theorem dX8_nextCost_0 : decode cX8_nextCost 0 = .ok (.aload_n 0, 1) := by decide +kernel
theorem dX8_nextCost_1 : decode cX8_nextCost 1 = .ok (.iload_n 1, 1) := by decide +kernel
theorem dX8_nextCost_2 : decode cX8_nextCost 2 = .ok (.invokevirtual 166, 3) := by decide +kernel
theorem dX8_nextCost_5 : decode cX8_nextCost 5 = .ok (.getfield 176, 3) := by decide +kernel
theorem dX8_nextCost_8 : decode cX8_nextCost 8 = .ok (.ireturn, 1) := by decide +kernel
theorem dX8_tick_0 : decode cX8_tick 0 = .ok (.iload_n 1, 1) := by decide +kernel
theorem dX8_tick_1 : decode cX8_tick 1 = .ok (.iconst 1, 1) := by decide +kernel
theorem dX8_tick_2 : decode cX8_tick 2 = .ok (.bipush 20, 2) := by decide +kernel
theorem dX8_tick_4 : decode cX8_tick 4 = .ok (.invokestatic 116, 3) := by decide +kernel
theorem dX8_tick_7 : decode cX8_tick 7 = .ok (.ifCond .ne 13, 3) := by decide +kernel
theorem dX8_tick_10 : decode cX8_tick 10 = .ok (.new 48, 3) := by decide +kernel
theorem dX8_tick_13 : decode cX8_tick 13 = .ok (.dup, 1) := by decide +kernel
theorem dX8_tick_14 : decode cX8_tick 14 = .ok (.ldc 179, 2) := by decide +kernel
theorem dX8_tick_16 : decode cX8_tick 16 = .ok (.invokespecial 52, 3) := by decide +kernel
theorem dX8_tick_19 : decode cX8_tick 19 = .ok (.athrow, 1) := by decide +kernel
theorem dX8_tick_20 : decode cX8_tick 20 = .ok (.iconst 0, 1) := by decide +kernel
theorem dX8_tick_21 : decode cX8_tick 21 = .ok (.istore_n 2, 1) := by decide +kernel
theorem dX8_tick_22 : decode cX8_tick 22 = .ok (.iconst 0, 1) := by decide +kernel
theorem dX8_tick_23 : decode cX8_tick 23 = .ok (.istore_n 3, 1) := by decide +kernel
theorem dX8_tick_24 : decode cX8_tick 24 = .ok (.iload_n 3, 1) := by decide +kernel
theorem dX8_tick_25 : decode cX8_tick 25 = .ok (.iload_n 1, 1) := by decide +kernel
theorem dX8_tick_26 : decode cX8_tick 26 = .ok (.if_icmp .ge 16, 3) := by decide +kernel
theorem dX8_tick_29 : decode cX8_tick 29 = .ok (.iload_n 2, 1) := by decide +kernel
theorem dX8_tick_30 : decode cX8_tick 30 = .ok (.aload_n 0, 1) := by decide +kernel
theorem dX8_tick_31 : decode cX8_tick 31 = .ok (.invokevirtual 181, 3) := by decide +kernel
theorem dX8_tick_34 : decode cX8_tick 34 = .ok (.iadd, 1) := by decide +kernel
theorem dX8_tick_35 : decode cX8_tick 35 = .ok (.istore_n 2, 1) := by decide +kernel
theorem dX8_tick_36 : decode cX8_tick 36 = .ok (.iinc 3 1, 3) := by decide +kernel
theorem dX8_tick_39 : decode cX8_tick 39 = .ok (.goto (-15), 3) := by decide +kernel
theorem dX8_tick_42 : decode cX8_tick 42 = .ok (.aload_n 0, 1) := by decide +kernel
theorem dX8_tick_43 : decode cX8_tick 43 = .ok (.dup, 1) := by decide +kernel
theorem dX8_tick_44 : decode cX8_tick 44 = .ok (.getfield 25, 3) := by decide +kernel
theorem dX8_tick_47 : decode cX8_tick 47 = .ok (.iload_n 2, 1) := by decide +kernel
theorem dX8_tick_48 : decode cX8_tick 48 = .ok (.i2l, 1) := by decide +kernel
theorem dX8_tick_49 : decode cX8_tick 49 = .ok (.ladd, 1) := by decide +kernel
theorem dX8_tick_50 : decode cX8_tick 50 = .ok (.putfield 25, 3) := by decide +kernel
theorem dX8_tick_53 : decode cX8_tick 53 = .ok (.iload_n 2, 1) := by decide +kernel
theorem dX8_tick_54 : decode cX8_tick 54 = .ok (.ireturn, 1) := by decide +kernel
theorem dX8_carried_0 : decode cX8_carried 0 = .ok (.aload_n 0, 1) := by decide +kernel
theorem dX8_carried_1 : decode cX8_carried 1 = .ok (.getfield 25, 3) := by decide +kernel
theorem dX8_carried_4 : decode cX8_carried 4 = .ok (.lreturn, 1) := by decide +kernel
theorem dX8_type_0 : decode cX8_type 0 = .ok (.aload_n 0, 1) := by decide +kernel
theorem dX8_type_1 : decode cX8_type 1 = .ok (.iload_n 1, 1) := by decide +kernel
theorem dX8_type_2 : decode cX8_type 2 = .ok (.invokevirtual 139, 3) := by decide +kernel
theorem dX8_type_5 : decode cX8_type 5 = .ok (.astore_n 3, 1) := by decide +kernel
theorem dX8_type_6 : decode cX8_type 6 = .ok (.iload_n 2, 1) := by decide +kernel
theorem dX8_type_7 : decode cX8_type 7 = .ok (.bipush 97, 2) := by decide +kernel
theorem dX8_type_9 : decode cX8_type 9 = .ok (.if_icmp .lt 9, 3) := by decide +kernel
theorem dX8_type_12 : decode cX8_type 12 = .ok (.iload_n 2, 1) := by decide +kernel
theorem dX8_type_13 : decode cX8_type 13 = .ok (.bipush 122, 2) := by decide +kernel
theorem dX8_type_15 : decode cX8_type 15 = .ok (.if_icmp .le 13, 3) := by decide +kernel
theorem dX8_type_18 : decode cX8_type 18 = .ok (.new 48, 3) := by decide +kernel
theorem dX8_type_21 : decode cX8_type 21 = .ok (.dup, 1) := by decide +kernel
theorem dX8_type_22 : decode cX8_type 22 = .ok (.ldc 184, 2) := by decide +kernel
theorem dX8_type_24 : decode cX8_type 24 = .ok (.invokespecial 52, 3) := by decide +kernel
theorem dX8_type_27 : decode cX8_type 27 = .ok (.athrow, 1) := by decide +kernel
theorem dX8_type_28 : decode cX8_type 28 = .ok (.aload_n 3, 1) := by decide +kernel
theorem dX8_type_29 : decode cX8_type 29 = .ok (.getfield 150, 3) := by decide +kernel
theorem dX8_type_32 : decode cX8_type 32 = .ok (.astore 4, 2) := by decide +kernel
theorem dX8_type_34 : decode cX8_type 34 = .ok (.aload 4, 2) := by decide +kernel
theorem dX8_type_36 : decode cX8_type 36 = .ok (.invokevirtual 186, 3) := by decide +kernel
theorem dX8_type_39 : decode cX8_type 39 = .ok (.astore 5, 2) := by decide +kernel
theorem dX8_type_41 : decode cX8_type 41 = .ok (.aload 5, 2) := by decide +kernel
theorem dX8_type_43 : decode cX8_type 43 = .ok (.ifnonnull 13, 3) := by decide +kernel
theorem dX8_type_46 : decode cX8_type 46 = .ok (.new 190, 3) := by decide +kernel
theorem dX8_type_49 : decode cX8_type 49 = .ok (.dup, 1) := by decide +kernel
theorem dX8_type_50 : decode cX8_type 50 = .ok (.ldc 192, 2) := by decide +kernel
theorem dX8_type_52 : decode cX8_type 52 = .ok (.invokespecial 194, 3) := by decide +kernel
theorem dX8_type_55 : decode cX8_type 55 = .ok (.athrow, 1) := by decide +kernel
theorem dX8_type_56 : decode cX8_type 56 = .ok (.aload 4, 2) := by decide +kernel
theorem dX8_type_58 : decode cX8_type 58 = .ok (.getfield 195, 3) := by decide +kernel
theorem dX8_type_61 : decode cX8_type 61 = .ok (.invokevirtual 198, 3) := by decide +kernel
theorem dX8_type_64 : decode cX8_type 64 = .ok (.bipush 20, 2) := by decide +kernel
theorem dX8_type_66 : decode cX8_type 66 = .ok (.if_icmp .lt 13, 3) := by decide +kernel
theorem dX8_type_69 : decode cX8_type 69 = .ok (.new 30, 3) := by decide +kernel
theorem dX8_type_72 : decode cX8_type 72 = .ok (.dup, 1) := by decide +kernel
theorem dX8_type_73 : decode cX8_type 73 = .ok (.ldc 201, 2) := by decide +kernel
theorem dX8_type_75 : decode cX8_type 75 = .ok (.invokespecial 34, 3) := by decide +kernel
theorem dX8_type_78 : decode cX8_type 78 = .ok (.athrow, 1) := by decide +kernel
theorem dX8_type_79 : decode cX8_type 79 = .ok (.aload 5, 2) := by decide +kernel
theorem dX8_type_81 : decode cX8_type 81 = .ok (.aload 4, 2) := by decide +kernel
theorem dX8_type_83 : decode cX8_type 83 = .ok (.aload 5, 2) := by decide +kernel
theorem dX8_type_85 : decode cX8_type 85 = .ok (.invokevirtual 203, 3) := by decide +kernel
theorem dX8_type_88 : decode cX8_type 88 = .ok (.invokevirtual 206, 3) := by decide +kernel
theorem dX8_type_91 : decode cX8_type 91 = .ok (.istore 6, 2) := by decide +kernel
theorem dX8_type_93 : decode cX8_type 93 = .ok (.aload 4, 2) := by decide +kernel
theorem dX8_type_95 : decode cX8_type 95 = .ok (.getfield 195, 3) := by decide +kernel
theorem dX8_type_98 : decode cX8_type 98 = .ok (.new 159, 3) := by decide +kernel
theorem dX8_type_101 : decode cX8_type 101 = .ok (.dup, 1) := by decide +kernel
theorem dX8_type_102 : decode cX8_type 102 = .ok (.aload_n 3, 1) := by decide +kernel
theorem dX8_type_103 : decode cX8_type 103 = .ok (.aload 5, 2) := by decide +kernel
theorem dX8_type_105 : decode cX8_type 105 = .ok (.iload 6, 2) := by decide +kernel
theorem dX8_type_107 : decode cX8_type 107 = .ok (.bipush 100, 2) := by decide +kernel
theorem dX8_type_109 : decode cX8_type 109 = .ok (.iload_n 2, 1) := by decide +kernel
theorem dX8_type_110 : decode cX8_type 110 = .ok (.bipush 97, 2) := by decide +kernel
theorem dX8_type_112 : decode cX8_type 112 = .ok (.isub, 1) := by decide +kernel
theorem dX8_type_113 : decode cX8_type 113 = .ok (.iconst 1, 1) := by decide +kernel
theorem dX8_type_114 : decode cX8_type 114 = .ok (.iadd, 1) := by decide +kernel
theorem dX8_type_115 : decode cX8_type 115 = .ok (.iadd, 1) := by decide +kernel
theorem dX8_type_116 : decode cX8_type 116 = .ok (.invokespecial 210, 3) := by decide +kernel
theorem dX8_type_119 : decode cX8_type 119 = .ok (.invokevirtual 101, 3) := by decide +kernel
theorem dX8_type_122 : decode cX8_type 122 = .ok (.pop, 1) := by decide +kernel
theorem dX8_type_123 : decode cX8_type 123 = .ok (.aload 4, 2) := by decide +kernel
theorem dX8_type_125 : decode cX8_type 125 = .ok (.getfield 195, 3) := by decide +kernel
theorem dX8_type_128 : decode cX8_type 128 = .ok (.invokevirtual 198, 3) := by decide +kernel
theorem dX8_type_131 : decode cX8_type 131 = .ok (.ireturn, 1) := by decide +kernel
theorem dX8_guesses_0 : decode cX8_guesses 0 = .ok (.aload_n 0, 1) := by decide +kernel
theorem dX8_guesses_1 : decode cX8_guesses 1 = .ok (.iload_n 1, 1) := by decide +kernel
theorem dX8_guesses_2 : decode cX8_guesses 2 = .ok (.invokevirtual 139, 3) := by decide +kernel
theorem dX8_guesses_5 : decode cX8_guesses 5 = .ok (.astore_n 2, 1) := by decide +kernel
theorem dX8_guesses_6 : decode cX8_guesses 6 = .ok (.aload_n 2, 1) := by decide +kernel
theorem dX8_guesses_7 : decode cX8_guesses 7 = .ok (.getfield 150, 3) := by decide +kernel
theorem dX8_guesses_10 : decode cX8_guesses 10 = .ok (.aload_n 2, 1) := by decide +kernel
theorem dX8_guesses_11 : decode cX8_guesses 11 = .ok (.invokevirtual 213, 3) := by decide +kernel
theorem dX8_guesses_14 : decode cX8_guesses 14 = .ok (.ireturn, 1) := by decide +kernel
theorem dX8_copy_0 : decode cX8_copy 0 = .ok (.aload_n 0, 1) := by decide +kernel
theorem dX8_copy_1 : decode cX8_copy 1 = .ok (.iload_n 1, 1) := by decide +kernel
theorem dX8_copy_2 : decode cX8_copy 2 = .ok (.invokevirtual 37, 3) := by decide +kernel
theorem dX8_copy_5 : decode cX8_copy 5 = .ok (.getfield 228, 3) := by decide +kernel
theorem dX8_copy_8 : decode cX8_copy 8 = .ok (.astore 4, 2) := by decide +kernel
theorem dX8_copy_10 : decode cX8_copy 10 = .ok (.iload_n 2, 1) := by decide +kernel
theorem dX8_copy_11 : decode cX8_copy 11 = .ok (.iconst 0, 1) := by decide +kernel
theorem dX8_copy_12 : decode cX8_copy 12 = .ok (.iconst 2, 1) := by decide +kernel
theorem dX8_copy_13 : decode cX8_copy 13 = .ok (.invokestatic 116, 3) := by decide +kernel
theorem dX8_copy_16 : decode cX8_copy 16 = .ok (.ifCond .eq 14, 3) := by decide +kernel
theorem dX8_copy_19 : decode cX8_copy 19 = .ok (.iload_n 3, 1) := by decide +kernel
theorem dX8_copy_20 : decode cX8_copy 20 = .ok (.iconst 0, 1) := by decide +kernel
theorem dX8_copy_21 : decode cX8_copy 21 = .ok (.sipush 9999, 3) := by decide +kernel
theorem dX8_copy_24 : decode cX8_copy 24 = .ok (.invokestatic 116, 3) := by decide +kernel
theorem dX8_copy_27 : decode cX8_copy 27 = .ok (.ifCond .ne 13, 3) := by decide +kernel
theorem dX8_copy_30 : decode cX8_copy 30 = .ok (.new 48, 3) := by decide +kernel
theorem dX8_copy_33 : decode cX8_copy 33 = .ok (.dup, 1) := by decide +kernel
theorem dX8_copy_34 : decode cX8_copy 34 = .ok (.ldc 50, 2) := by decide +kernel
theorem dX8_copy_36 : decode cX8_copy 36 = .ok (.invokespecial 52, 3) := by decide +kernel
theorem dX8_copy_39 : decode cX8_copy 39 = .ok (.athrow, 1) := by decide +kernel
theorem dX8_copy_40 : decode cX8_copy 40 = .ok (.aload 4, 2) := by decide +kernel
theorem dX8_copy_42 : decode cX8_copy 42 = .ok (.getfield 232, 3) := by decide +kernel
theorem dX8_copy_45 : decode cX8_copy 45 = .ok (.istore 5, 2) := by decide +kernel
theorem dX8_copy_47 : decode cX8_copy 47 = .ok (.aload 4, 2) := by decide +kernel
theorem dX8_copy_49 : decode cX8_copy 49 = .ok (.iload_n 3, 1) := by decide +kernel
theorem dX8_copy_50 : decode cX8_copy 50 = .ok (.iload_n 2, 1) := by decide +kernel
theorem dX8_copy_51 : decode cX8_copy 51 = .ok (.iconst 1, 1) := by decide +kernel
theorem dX8_copy_52 : decode cX8_copy 52 = .ok (.iload_n 1, 1) := by decide +kernel
theorem dX8_copy_53 : decode cX8_copy 53 = .ok (.ishl, 1) := by decide +kernel
theorem dX8_copy_54 : decode cX8_copy 54 = .ok (.invokevirtual 237, 3) := by decide +kernel
theorem dX8_copy_57 : decode cX8_copy 57 = .ok (.iload 5, 2) := by decide +kernel
theorem dX8_copy_59 : decode cX8_copy 59 = .ok (.ireturn, 1) := by decide +kernel
theorem dX8_allow_0 : decode cX8_allow 0 = .ok (.aload_n 0, 1) := by decide +kernel
theorem dX8_allow_1 : decode cX8_allow 1 = .ok (.iload_n 1, 1) := by decide +kernel
theorem dX8_allow_2 : decode cX8_allow 2 = .ok (.invokevirtual 241, 3) := by decide +kernel
theorem dX8_allow_5 : decode cX8_allow 5 = .ok (.ifCond .eq 11, 3) := by decide +kernel
theorem dX8_allow_8 : decode cX8_allow 8 = .ok (.aload_n 0, 1) := by decide +kernel
theorem dX8_allow_9 : decode cX8_allow 9 = .ok (.iload_n 2, 1) := by decide +kernel
theorem dX8_allow_10 : decode cX8_allow 10 = .ok (.invokevirtual 241, 3) := by decide +kernel
theorem dX8_allow_13 : decode cX8_allow 13 = .ok (.ifCond .ne 13, 3) := by decide +kernel
theorem dX8_allow_16 : decode cX8_allow 16 = .ok (.new 245, 3) := by decide +kernel
theorem dX8_allow_19 : decode cX8_allow 19 = .ok (.dup, 1) := by decide +kernel
theorem dX8_allow_20 : decode cX8_allow 20 = .ok (.ldc 247, 2) := by decide +kernel
theorem dX8_allow_22 : decode cX8_allow 22 = .ok (.invokespecial 249, 3) := by decide +kernel
theorem dX8_allow_25 : decode cX8_allow 25 = .ok (.athrow, 1) := by decide +kernel
theorem dX8_allow_26 : decode cX8_allow 26 = .ok (.iload_n 3, 1) := by decide +kernel
theorem dX8_allow_27 : decode cX8_allow 27 = .ok (.iconst 0, 1) := by decide +kernel
theorem dX8_allow_28 : decode cX8_allow 28 = .ok (.iconst 2, 1) := by decide +kernel
theorem dX8_allow_29 : decode cX8_allow 29 = .ok (.invokestatic 116, 3) := by decide +kernel
theorem dX8_allow_32 : decode cX8_allow 32 = .ok (.ifCond .eq 8, 3) := by decide +kernel
theorem dX8_allow_35 : decode cX8_allow 35 = .ok (.iload_n 1, 1) := by decide +kernel
theorem dX8_allow_36 : decode cX8_allow 36 = .ok (.iload_n 2, 1) := by decide +kernel
theorem dX8_allow_37 : decode cX8_allow 37 = .ok (.if_icmp .ne 13, 3) := by decide +kernel
theorem dX8_allow_40 : decode cX8_allow 40 = .ok (.new 48, 3) := by decide +kernel
theorem dX8_allow_43 : decode cX8_allow 43 = .ok (.dup, 1) := by decide +kernel
theorem dX8_allow_44 : decode cX8_allow 44 = .ok (.ldc 250, 2) := by decide +kernel
theorem dX8_allow_46 : decode cX8_allow 46 = .ok (.invokespecial 52, 3) := by decide +kernel
theorem dX8_allow_49 : decode cX8_allow 49 = .ok (.athrow, 1) := by decide +kernel
theorem dX8_allow_50 : decode cX8_allow 50 = .ok (.iload_n 1, 1) := by decide +kernel
theorem dX8_allow_51 : decode cX8_allow 51 = .ok (.iload_n 2, 1) := by decide +kernel
theorem dX8_allow_52 : decode cX8_allow 52 = .ok (.iload_n 3, 1) := by decide +kernel
theorem dX8_allow_53 : decode cX8_allow 53 = .ok (.invokestatic 252, 3) := by decide +kernel
theorem dX8_allow_56 : decode cX8_allow 56 = .ok (.istore 5, 2) := by decide +kernel
theorem dX8_allow_58 : decode cX8_allow 58 = .ok (.aload_n 0, 1) := by decide +kernel
theorem dX8_allow_59 : decode cX8_allow 59 = .ok (.getfield 21, 3) := by decide +kernel
theorem dX8_allow_62 : decode cX8_allow 62 = .ok (.iload 5, 2) := by decide +kernel
theorem dX8_allow_64 : decode cX8_allow 64 = .ok (.baload, 1) := by decide +kernel
theorem dX8_allow_65 : decode cX8_allow 65 = .ok (.istore 6, 2) := by decide +kernel
theorem dX8_allow_67 : decode cX8_allow 67 = .ok (.aload_n 0, 1) := by decide +kernel
theorem dX8_allow_68 : decode cX8_allow 68 = .ok (.getfield 21, 3) := by decide +kernel
theorem dX8_allow_71 : decode cX8_allow 71 = .ok (.iload 5, 2) := by decide +kernel
theorem dX8_allow_73 : decode cX8_allow 73 = .ok (.iload 4, 2) := by decide +kernel
theorem dX8_allow_75 : decode cX8_allow 75 = .ok (.bastore, 1) := by decide +kernel
theorem dX8_allow_76 : decode cX8_allow 76 = .ok (.iload 6, 2) := by decide +kernel
theorem dX8_allow_78 : decode cX8_allow 78 = .ok (.ireturn, 1) := by decide +kernel
theorem dX8_paste_0 : decode cX8_paste 0 = .ok (.aload_n 0, 1) := by decide +kernel
theorem dX8_paste_1 : decode cX8_paste 1 = .ok (.iload_n 1, 1) := by decide +kernel
theorem dX8_paste_2 : decode cX8_paste 2 = .ok (.invokevirtual 37, 3) := by decide +kernel
theorem dX8_paste_5 : decode cX8_paste 5 = .ok (.getfield 228, 3) := by decide +kernel
theorem dX8_paste_8 : decode cX8_paste 8 = .ok (.astore_n 3, 1) := by decide +kernel
theorem dX8_paste_9 : decode cX8_paste 9 = .ok (.aload_n 0, 1) := by decide +kernel
theorem dX8_paste_10 : decode cX8_paste 10 = .ok (.iload_n 2, 1) := by decide +kernel
theorem dX8_paste_11 : decode cX8_paste 11 = .ok (.invokevirtual 37, 3) := by decide +kernel
theorem dX8_paste_14 : decode cX8_paste 14 = .ok (.getfield 228, 3) := by decide +kernel
theorem dX8_paste_17 : decode cX8_paste 17 = .ok (.astore 4, 2) := by decide +kernel
theorem dX8_paste_19 : decode cX8_paste 19 = .ok (.iload_n 1, 1) := by decide +kernel
theorem dX8_paste_20 : decode cX8_paste 20 = .ok (.iload_n 2, 1) := by decide +kernel
theorem dX8_paste_21 : decode cX8_paste 21 = .ok (.if_icmp .ne 14, 3) := by decide +kernel
theorem dX8_paste_24 : decode cX8_paste 24 = .ok (.new 245, 3) := by decide +kernel
theorem dX8_paste_27 : decode cX8_paste 27 = .ok (.dup, 1) := by decide +kernel
theorem dX8_paste_28 : decode cX8_paste 28 = .ok (.ldc_w 256, 3) := by decide +kernel
theorem dX8_paste_31 : decode cX8_paste 31 = .ok (.invokespecial 249, 3) := by decide +kernel
theorem dX8_paste_34 : decode cX8_paste 34 = .ok (.athrow, 1) := by decide +kernel
theorem dX8_paste_35 : decode cX8_paste 35 = .ok (.aload_n 3, 1) := by decide +kernel
theorem dX8_paste_36 : decode cX8_paste 36 = .ok (.getfield 232, 3) := by decide +kernel
theorem dX8_paste_39 : decode cX8_paste 39 = .ok (.iconst (-1), 1) := by decide +kernel
theorem dX8_paste_40 : decode cX8_paste 40 = .ok (.if_icmp .ne 14, 3) := by decide +kernel
theorem dX8_paste_43 : decode cX8_paste 43 = .ok (.new 258, 3) := by decide +kernel
theorem dX8_paste_46 : decode cX8_paste 46 = .ok (.dup, 1) := by decide +kernel
theorem dX8_paste_47 : decode cX8_paste 47 = .ok (.ldc_w 260, 3) := by decide +kernel
theorem dX8_paste_50 : decode cX8_paste 50 = .ok (.invokespecial 262, 3) := by decide +kernel
theorem dX8_paste_53 : decode cX8_paste 53 = .ok (.athrow, 1) := by decide +kernel
theorem dX8_paste_54 : decode cX8_paste 54 = .ok (.aload_n 0, 1) := by decide +kernel
theorem dX8_paste_55 : decode cX8_paste 55 = .ok (.aload_n 3, 1) := by decide +kernel
theorem dX8_paste_56 : decode cX8_paste 56 = .ok (.iload_n 2, 1) := by decide +kernel
theorem dX8_paste_57 : decode cX8_paste 57 = .ok (.invokevirtual 263, 3) := by decide +kernel
theorem dX8_paste_60 : decode cX8_paste 60 = .ok (.ifCond .ne 14, 3) := by decide +kernel
theorem dX8_paste_63 : decode cX8_paste 63 = .ok (.new 190, 3) := by decide +kernel
theorem dX8_paste_66 : decode cX8_paste 66 = .ok (.dup, 1) := by decide +kernel
theorem dX8_paste_67 : decode cX8_paste 67 = .ok (.ldc_w 267, 3) := by decide +kernel
theorem dX8_paste_70 : decode cX8_paste 70 = .ok (.invokespecial 194, 3) := by decide +kernel
theorem dX8_paste_73 : decode cX8_paste 73 = .ok (.athrow, 1) := by decide +kernel
theorem dX8_paste_74 : decode cX8_paste 74 = .ok (.aload 4, 2) := by decide +kernel
theorem dX8_paste_76 : decode cX8_paste 76 = .ok (.aload_n 3, 1) := by decide +kernel
theorem dX8_paste_77 : decode cX8_paste 77 = .ok (.getfield 232, 3) := by decide +kernel
theorem dX8_paste_80 : decode cX8_paste 80 = .ok (.aload_n 3, 1) := by decide +kernel
theorem dX8_paste_81 : decode cX8_paste 81 = .ok (.getfield 269, 3) := by decide +kernel
theorem dX8_paste_84 : decode cX8_paste 84 = .ok (.aload_n 3, 1) := by decide +kernel
theorem dX8_paste_85 : decode cX8_paste 85 = .ok (.getfield 272, 3) := by decide +kernel
theorem dX8_paste_88 : decode cX8_paste 88 = .ok (.iconst 1, 1) := by decide +kernel
theorem dX8_paste_89 : decode cX8_paste 89 = .ok (.iload_n 2, 1) := by decide +kernel
theorem dX8_paste_90 : decode cX8_paste 90 = .ok (.ishl, 1) := by decide +kernel
theorem dX8_paste_91 : decode cX8_paste 91 = .ok (.ior, 1) := by decide +kernel
theorem dX8_paste_92 : decode cX8_paste 92 = .ok (.invokevirtual 237, 3) := by decide +kernel
theorem dX8_paste_95 : decode cX8_paste 95 = .ok (.aload 4, 2) := by decide +kernel
theorem dX8_paste_97 : decode cX8_paste 97 = .ok (.getfield 232, 3) := by decide +kernel
theorem dX8_paste_100 : decode cX8_paste 100 = .ok (.ireturn, 1) := by decide +kernel
theorem dX8_move_0 : decode cX8_move 0 = .ok (.aload_n 0, 1) := by decide +kernel
theorem dX8_move_1 : decode cX8_move 1 = .ok (.iload_n 1, 1) := by decide +kernel
theorem dX8_move_2 : decode cX8_move 2 = .ok (.invokevirtual 37, 3) := by decide +kernel
theorem dX8_move_5 : decode cX8_move 5 = .ok (.getfield 275, 3) := by decide +kernel
theorem dX8_move_8 : decode cX8_move 8 = .ok (.astore_n 2, 1) := by decide +kernel
theorem dX8_move_9 : decode cX8_move 9 = .ok (.aload_n 2, 1) := by decide +kernel
theorem dX8_move_10 : decode cX8_move 10 = .ok (.getfield 279, 3) := by decide +kernel
theorem dX8_move_13 : decode cX8_move 13 = .ok (.ifCond .eq 14, 3) := by decide +kernel
theorem dX8_move_16 : decode cX8_move 16 = .ok (.new 30, 3) := by decide +kernel
theorem dX8_move_19 : decode cX8_move 19 = .ok (.dup, 1) := by decide +kernel
theorem dX8_move_20 : decode cX8_move 20 = .ok (.ldc_w 284, 3) := by decide +kernel
theorem dX8_move_23 : decode cX8_move 23 = .ok (.invokespecial 34, 3) := by decide +kernel
theorem dX8_move_26 : decode cX8_move 26 = .ok (.athrow, 1) := by decide +kernel
theorem dX8_move_27 : decode cX8_move 27 = .ok (.aload_n 2, 1) := by decide +kernel
theorem dX8_move_28 : decode cX8_move 28 = .ok (.invokevirtual 286, 3) := by decide +kernel
theorem dX8_move_31 : decode cX8_move 31 = .ok (.aload_n 2, 1) := by decide +kernel
theorem dX8_move_32 : decode cX8_move 32 = .ok (.getfield 289, 3) := by decide +kernel
theorem dX8_move_35 : decode cX8_move 35 = .ok (.ifCond .le 7, 3) := by decide +kernel
theorem dX8_move_38 : decode cX8_move 38 = .ok (.iconst 1, 1) := by decide +kernel
theorem dX8_move_39 : decode cX8_move 39 = .ok (.goto 4, 3) := by decide +kernel
theorem dX8_move_42 : decode cX8_move 42 = .ok (.iconst 0, 1) := by decide +kernel
theorem dX8_move_43 : decode cX8_move 43 = .ok (.ireturn, 1) := by decide +kernel
theorem dX8_left_0 : decode cX8_left 0 = .ok (.aload_n 0, 1) := by decide +kernel
theorem dX8_left_1 : decode cX8_left 1 = .ok (.iload_n 1, 1) := by decide +kernel
theorem dX8_left_2 : decode cX8_left 2 = .ok (.invokevirtual 37, 3) := by decide +kernel
theorem dX8_left_5 : decode cX8_left 5 = .ok (.astore_n 2, 1) := by decide +kernel
theorem dX8_left_6 : decode cX8_left 6 = .ok (.aload_n 2, 1) := by decide +kernel
theorem dX8_left_7 : decode cX8_left 7 = .ok (.getfield 275, 3) := by decide +kernel
theorem dX8_left_10 : decode cX8_left 10 = .ok (.getfield 279, 3) := by decide +kernel
theorem dX8_left_13 : decode cX8_left 13 = .ok (.ifCond .ne 14, 3) := by decide +kernel
theorem dX8_left_16 : decode cX8_left 16 = .ok (.new 30, 3) := by decide +kernel
theorem dX8_left_19 : decode cX8_left 19 = .ok (.dup, 1) := by decide +kernel
theorem dX8_left_20 : decode cX8_left 20 = .ok (.ldc_w 292, 3) := by decide +kernel
theorem dX8_left_23 : decode cX8_left 23 = .ok (.invokespecial 34, 3) := by decide +kernel
theorem dX8_left_26 : decode cX8_left 26 = .ok (.athrow, 1) := by decide +kernel
theorem dX8_left_27 : decode cX8_left 27 = .ok (.aload_n 2, 1) := by decide +kernel
theorem dX8_left_28 : decode cX8_left 28 = .ok (.getfield 275, 3) := by decide +kernel
theorem dX8_left_31 : decode cX8_left 31 = .ok (.aload_n 2, 1) := by decide +kernel
theorem dX8_left_32 : decode cX8_left 32 = .ok (.getfield 124, 3) := by decide +kernel
theorem dX8_left_35 : decode cX8_left 35 = .ok (.invokevirtual 294, 3) := by decide +kernel
theorem dX8_left_38 : decode cX8_left 38 = .ok (.ireturn, 1) := by decide +kernel
theorem dX8_host_0 : decode cX8_host 0 = .ok (.aload_n 0, 1) := by decide +kernel
theorem dX8_host_1 : decode cX8_host 1 = .ok (.iload_n 1, 1) := by decide +kernel
theorem dX8_host_2 : decode cX8_host 2 = .ok (.invokevirtual 37, 3) := by decide +kernel
theorem dX8_host_5 : decode cX8_host 5 = .ok (.getfield 275, 3) := by decide +kernel
theorem dX8_host_8 : decode cX8_host 8 = .ok (.getfield 289, 3) := by decide +kernel
theorem dX8_host_11 : decode cX8_host 11 = .ok (.ireturn, 1) := by decide +kernel
theorem dX8_record_0 : decode cX8_record 0 = .ok (.aload_n 0, 1) := by decide +kernel
theorem dX8_record_1 : decode cX8_record 1 = .ok (.iload_n 1, 1) := by decide +kernel
theorem dX8_record_2 : decode cX8_record 2 = .ok (.invokevirtual 37, 3) := by decide +kernel
theorem dX8_record_5 : decode cX8_record 5 = .ok (.astore_n 2, 1) := by decide +kernel
theorem dX8_record_6 : decode cX8_record 6 = .ok (.aload_n 2, 1) := by decide +kernel
theorem dX8_record_7 : decode cX8_record 7 = .ok (.getfield 298, 3) := by decide +kernel
theorem dX8_record_10 : decode cX8_record 10 = .ok (.ifnonnull 14, 3) := by decide +kernel
theorem dX8_record_13 : decode cX8_record 13 = .ok (.aload_n 2, 1) := by decide +kernel
theorem dX8_record_14 : decode cX8_record 14 = .ok (.new 302, 3) := by decide +kernel
theorem dX8_record_17 : decode cX8_record 17 = .ok (.dup, 1) := by decide +kernel
theorem dX8_record_18 : decode cX8_record 18 = .ok (.invokespecial 304, 3) := by decide +kernel
theorem dX8_record_21 : decode cX8_record 21 = .ok (.putfield 298, 3) := by decide +kernel
theorem dX8_record_24 : decode cX8_record 24 = .ok (.aload_n 2, 1) := by decide +kernel
theorem dX8_record_25 : decode cX8_record 25 = .ok (.getfield 298, 3) := by decide +kernel
theorem dX8_record_28 : decode cX8_record 28 = .ok (.getfield 305, 3) := by decide +kernel
theorem dX8_record_31 : decode cX8_record 31 = .ok (.istore_n 3, 1) := by decide +kernel
theorem dX8_record_32 : decode cX8_record 32 = .ok (.aload_n 2, 1) := by decide +kernel
theorem dX8_record_33 : decode cX8_record 33 = .ok (.getfield 298, 3) := by decide +kernel
theorem dX8_record_36 : decode cX8_record 36 = .ok (.invokevirtual 308, 3) := by decide +kernel
theorem dX8_record_39 : decode cX8_record 39 = .ok (.iload_n 3, 1) := by decide +kernel
theorem dX8_record_40 : decode cX8_record 40 = .ok (.ireturn, 1) := by decide +kernel
theorem dX8_played_0 : decode cX8_played 0 = .ok (.aload_n 0, 1) := by decide +kernel
theorem dX8_played_1 : decode cX8_played 1 = .ok (.iload_n 1, 1) := by decide +kernel
theorem dX8_played_2 : decode cX8_played 2 = .ok (.invokevirtual 37, 3) := by decide +kernel
theorem dX8_played_5 : decode cX8_played 5 = .ok (.getfield 298, 3) := by decide +kernel
theorem dX8_played_8 : decode cX8_played 8 = .ok (.astore 5, 2) := by decide +kernel
theorem dX8_played_10 : decode cX8_played 10 = .ok (.iload_n 3, 1) := by decide +kernel
theorem dX8_played_11 : decode cX8_played 11 = .ok (.iload 4, 2) := by decide +kernel
theorem dX8_played_13 : decode cX8_played 13 = .ok (.invokestatic 128, 3) := by decide +kernel
theorem dX8_played_16 : decode cX8_played 16 = .ok (.istore 6, 2) := by decide +kernel
theorem dX8_played_18 : decode cX8_played 18 = .ok (.aload 5, 2) := by decide +kernel
theorem dX8_played_20 : decode cX8_played 20 = .ok (.ifnull 16, 3) := by decide +kernel
theorem dX8_played_23 : decode cX8_played 23 = .ok (.iload_n 2, 1) := by decide +kernel
theorem dX8_played_24 : decode cX8_played 24 = .ok (.iconst 1, 1) := by decide +kernel
theorem dX8_played_25 : decode cX8_played 25 = .ok (.aload 5, 2) := by decide +kernel
theorem dX8_played_27 : decode cX8_played 27 = .ok (.getfield 305, 3) := by decide +kernel
theorem dX8_played_30 : decode cX8_played 30 = .ok (.invokestatic 116, 3) := by decide +kernel
theorem dX8_played_33 : decode cX8_played 33 = .ok (.ifCond .ne 14, 3) := by decide +kernel
theorem dX8_played_36 : decode cX8_played 36 = .ok (.new 258, 3) := by decide +kernel
theorem dX8_played_39 : decode cX8_played 39 = .ok (.dup, 1) := by decide +kernel
theorem dX8_played_40 : decode cX8_played 40 = .ok (.ldc_w 309, 3) := by decide +kernel
theorem dX8_played_43 : decode cX8_played 43 = .ok (.invokespecial 262, 3) := by decide +kernel
end
section
theorem dX8_played_46 : decode cX8_played 46 = .ok (.athrow, 1) := by decide +kernel
theorem dX8_played_47 : decode cX8_played 47 = .ok (.aload 5, 2) := by decide +kernel
theorem dX8_played_49 : decode cX8_played 49 = .ok (.iload_n 2, 1) := by decide +kernel
theorem dX8_played_50 : decode cX8_played 50 = .ok (.invokevirtual 311, 3) := by decide +kernel
theorem dX8_played_53 : decode cX8_played 53 = .ok (.aload 5, 2) := by decide +kernel
theorem dX8_played_55 : decode cX8_played 55 = .ok (.getfield 315, 3) := by decide +kernel
theorem dX8_played_58 : decode cX8_played 58 = .ok (.iload 6, 2) := by decide +kernel
theorem dX8_played_60 : decode cX8_played 60 = .ok (.iaload, 1) := by decide +kernel
theorem dX8_played_61 : decode cX8_played 61 = .ok (.ireturn, 1) := by decide +kernel
theorem dX8_noted_0 : decode cX8_noted 0 = .ok (.aload_n 0, 1) := by decide +kernel
theorem dX8_noted_1 : decode cX8_noted 1 = .ok (.iload_n 1, 1) := by decide +kernel
theorem dX8_noted_2 : decode cX8_noted 2 = .ok (.invokevirtual 37, 3) := by decide +kernel
theorem dX8_noted_5 : decode cX8_noted 5 = .ok (.getfield 298, 3) := by decide +kernel
theorem dX8_noted_8 : decode cX8_noted 8 = .ok (.astore_n 2, 1) := by decide +kernel
theorem dX8_noted_9 : decode cX8_noted 9 = .ok (.aload_n 2, 1) := by decide +kernel
theorem dX8_noted_10 : decode cX8_noted 10 = .ok (.ifnonnull 14, 3) := by decide +kernel
theorem dX8_noted_13 : decode cX8_noted 13 = .ok (.new 258, 3) := by decide +kernel
theorem dX8_noted_16 : decode cX8_noted 16 = .ok (.dup, 1) := by decide +kernel
theorem dX8_noted_17 : decode cX8_noted 17 = .ok (.ldc_w 318, 3) := by decide +kernel
theorem dX8_noted_20 : decode cX8_noted 20 = .ok (.invokespecial 262, 3) := by decide +kernel
theorem dX8_noted_23 : decode cX8_noted 23 = .ok (.athrow, 1) := by decide +kernel
theorem dX8_noted_24 : decode cX8_noted 24 = .ok (.aload_n 2, 1) := by decide +kernel
theorem dX8_noted_25 : decode cX8_noted 25 = .ok (.getfield 320, 3) := by decide +kernel
theorem dX8_noted_28 : decode cX8_noted 28 = .ok (.ireturn, 1) := by decide +kernel
theorem dX8_isConsistent_0 : decode cX8_isConsistent 0 = .ok (.aload_n 0, 1) := by decide +kernel
theorem dX8_isConsistent_1 : decode cX8_isConsistent 1 = .ok (.getfield 11, 3) := by decide +kernel
theorem dX8_isConsistent_4 : decode cX8_isConsistent 4 = .ok (.astore_n 1, 1) := by decide +kernel
theorem dX8_isConsistent_5 : decode cX8_isConsistent 5 = .ok (.aload_n 1, 1) := by decide +kernel
theorem dX8_isConsistent_6 : decode cX8_isConsistent 6 = .ok (.arraylength, 1) := by decide +kernel
theorem dX8_isConsistent_7 : decode cX8_isConsistent 7 = .ok (.istore_n 2, 1) := by decide +kernel
theorem dX8_isConsistent_8 : decode cX8_isConsistent 8 = .ok (.iconst 0, 1) := by decide +kernel
theorem dX8_isConsistent_9 : decode cX8_isConsistent 9 = .ok (.istore_n 3, 1) := by decide +kernel
theorem dX8_isConsistent_10 : decode cX8_isConsistent 10 = .ok (.iload_n 3, 1) := by decide +kernel
theorem dX8_isConsistent_11 : decode cX8_isConsistent 11 = .ok (.iload_n 2, 1) := by decide +kernel
theorem dX8_isConsistent_12 : decode cX8_isConsistent 12 = .ok (.if_icmp .ge 29, 3) := by decide +kernel
theorem dX8_isConsistent_15 : decode cX8_isConsistent 15 = .ok (.aload_n 1, 1) := by decide +kernel
theorem dX8_isConsistent_16 : decode cX8_isConsistent 16 = .ok (.iload_n 3, 1) := by decide +kernel
theorem dX8_isConsistent_17 : decode cX8_isConsistent 17 = .ok (.aaload, 1) := by decide +kernel
theorem dX8_isConsistent_18 : decode cX8_isConsistent 18 = .ok (.astore 4, 2) := by decide +kernel
theorem dX8_isConsistent_20 : decode cX8_isConsistent 20 = .ok (.aload 4, 2) := by decide +kernel
theorem dX8_isConsistent_22 : decode cX8_isConsistent 22 = .ok (.ifnull 13, 3) := by decide +kernel
theorem dX8_isConsistent_25 : decode cX8_isConsistent 25 = .ok (.aload 4, 2) := by decide +kernel
theorem dX8_isConsistent_27 : decode cX8_isConsistent 27 = .ok (.invokevirtual 325, 3) := by decide +kernel
theorem dX8_isConsistent_30 : decode cX8_isConsistent 30 = .ok (.ifCond .ne 5, 3) := by decide +kernel
theorem dX8_isConsistent_33 : decode cX8_isConsistent 33 = .ok (.iconst 0, 1) := by decide +kernel
theorem dX8_isConsistent_34 : decode cX8_isConsistent 34 = .ok (.ireturn, 1) := by decide +kernel
theorem dX8_isConsistent_35 : decode cX8_isConsistent 35 = .ok (.iinc 3 1, 3) := by decide +kernel
theorem dX8_isConsistent_38 : decode cX8_isConsistent 38 = .ok (.goto (-28), 3) := by decide +kernel
theorem dX8_isConsistent_41 : decode cX8_isConsistent 41 = .ok (.aload_n 0, 1) := by decide +kernel
theorem dX8_isConsistent_42 : decode cX8_isConsistent 42 = .ok (.getfield 17, 3) := by decide +kernel
theorem dX8_isConsistent_45 : decode cX8_isConsistent 45 = .ok (.astore_n 1, 1) := by decide +kernel
theorem dX8_isConsistent_46 : decode cX8_isConsistent 46 = .ok (.aload_n 1, 1) := by decide +kernel
theorem dX8_isConsistent_47 : decode cX8_isConsistent 47 = .ok (.arraylength, 1) := by decide +kernel
theorem dX8_isConsistent_48 : decode cX8_isConsistent 48 = .ok (.istore_n 2, 1) := by decide +kernel
theorem dX8_isConsistent_49 : decode cX8_isConsistent 49 = .ok (.iconst 0, 1) := by decide +kernel
theorem dX8_isConsistent_50 : decode cX8_isConsistent 50 = .ok (.istore_n 3, 1) := by decide +kernel
theorem dX8_isConsistent_51 : decode cX8_isConsistent 51 = .ok (.iload_n 3, 1) := by decide +kernel
theorem dX8_isConsistent_52 : decode cX8_isConsistent 52 = .ok (.iload_n 2, 1) := by decide +kernel
theorem dX8_isConsistent_53 : decode cX8_isConsistent 53 = .ok (.if_icmp .ge 35, 3) := by decide +kernel
theorem dX8_isConsistent_56 : decode cX8_isConsistent 56 = .ok (.aload_n 1, 1) := by decide +kernel
theorem dX8_isConsistent_57 : decode cX8_isConsistent 57 = .ok (.iload_n 3, 1) := by decide +kernel
theorem dX8_isConsistent_58 : decode cX8_isConsistent 58 = .ok (.aaload, 1) := by decide +kernel
theorem dX8_isConsistent_59 : decode cX8_isConsistent 59 = .ok (.astore 4, 2) := by decide +kernel
theorem dX8_isConsistent_61 : decode cX8_isConsistent 61 = .ok (.aload 4, 2) := by decide +kernel
theorem dX8_isConsistent_63 : decode cX8_isConsistent 63 = .ok (.ifnull 19, 3) := by decide +kernel
theorem dX8_isConsistent_66 : decode cX8_isConsistent 66 = .ok (.aload 4, 2) := by decide +kernel
theorem dX8_isConsistent_68 : decode cX8_isConsistent 68 = .ok (.getfield 146, 3) := by decide +kernel
theorem dX8_isConsistent_71 : decode cX8_isConsistent 71 = .ok (.iconst 0, 1) := by decide +kernel
theorem dX8_isConsistent_72 : decode cX8_isConsistent 72 = .ok (.bipush 60, 2) := by decide +kernel
theorem dX8_isConsistent_74 : decode cX8_isConsistent 74 = .ok (.invokestatic 116, 3) := by decide +kernel
theorem dX8_isConsistent_77 : decode cX8_isConsistent 77 = .ok (.ifCond .ne 5, 3) := by decide +kernel
theorem dX8_isConsistent_80 : decode cX8_isConsistent 80 = .ok (.iconst 0, 1) := by decide +kernel
theorem dX8_isConsistent_81 : decode cX8_isConsistent 81 = .ok (.ireturn, 1) := by decide +kernel
theorem dX8_isConsistent_82 : decode cX8_isConsistent 82 = .ok (.iinc 3 1, 3) := by decide +kernel
theorem dX8_isConsistent_85 : decode cX8_isConsistent 85 = .ok (.goto (-34), 3) := by decide +kernel
theorem dX8_isConsistent_88 : decode cX8_isConsistent 88 = .ok (.iconst 1, 1) := by decide +kernel
theorem dX8_isConsistent_89 : decode cX8_isConsistent 89 = .ok (.ireturn, 1) := by decide +kernel
theorem dX8_isWithin_0 : decode cX8_isWithin 0 = .ok (.iload_n 0, 1) := by decide +kernel
theorem dX8_isWithin_1 : decode cX8_isWithin 1 = .ok (.iload_n 1, 1) := by decide +kernel
theorem dX8_isWithin_2 : decode cX8_isWithin 2 = .ok (.if_icmp .lt 12, 3) := by decide +kernel
theorem dX8_isWithin_5 : decode cX8_isWithin 5 = .ok (.iload_n 0, 1) := by decide +kernel
theorem dX8_isWithin_6 : decode cX8_isWithin 6 = .ok (.iload_n 2, 1) := by decide +kernel
theorem dX8_isWithin_7 : decode cX8_isWithin 7 = .ok (.if_icmp .gt 7, 3) := by decide +kernel
theorem dX8_isWithin_10 : decode cX8_isWithin 10 = .ok (.iconst 1, 1) := by decide +kernel
theorem dX8_isWithin_11 : decode cX8_isWithin 11 = .ok (.goto 4, 3) := by decide +kernel
theorem dX8_isWithin_14 : decode cX8_isWithin 14 = .ok (.iconst 0, 1) := by decide +kernel
theorem dX8_isWithin_15 : decode cX8_isWithin 15 = .ok (.ireturn, 1) := by decide +kernel
theorem dX8_isScreenCell_0 : decode cX8_isScreenCell 0 = .ok (.iload_n 0, 1) := by decide +kernel
theorem dX8_isScreenCell_1 : decode cX8_isScreenCell 1 = .ok (.iconst 0, 1) := by decide +kernel
theorem dX8_isScreenCell_2 : decode cX8_isScreenCell 2 = .ok (.bipush 11, 2) := by decide +kernel
theorem dX8_isScreenCell_4 : decode cX8_isScreenCell 4 = .ok (.invokestatic 116, 3) := by decide +kernel
theorem dX8_isScreenCell_7 : decode cX8_isScreenCell 7 = .ok (.ifCond .eq 17, 3) := by decide +kernel
theorem dX8_isScreenCell_10 : decode cX8_isScreenCell 10 = .ok (.iload_n 1, 1) := by decide +kernel
theorem dX8_isScreenCell_11 : decode cX8_isScreenCell 11 = .ok (.iconst 0, 1) := by decide +kernel
theorem dX8_isScreenCell_12 : decode cX8_isScreenCell 12 = .ok (.bipush 7, 2) := by decide +kernel
theorem dX8_isScreenCell_14 : decode cX8_isScreenCell 14 = .ok (.invokestatic 116, 3) := by decide +kernel
theorem dX8_isScreenCell_17 : decode cX8_isScreenCell 17 = .ok (.ifCond .eq 7, 3) := by decide +kernel
theorem dX8_isScreenCell_20 : decode cX8_isScreenCell 20 = .ok (.iconst 1, 1) := by decide +kernel
theorem dX8_isScreenCell_21 : decode cX8_isScreenCell 21 = .ok (.goto 4, 3) := by decide +kernel
theorem dX8_isScreenCell_24 : decode cX8_isScreenCell 24 = .ok (.iconst 0, 1) := by decide +kernel
theorem dX8_isScreenCell_25 : decode cX8_isScreenCell 25 = .ok (.ireturn, 1) := by decide +kernel
theorem dX8_isWindowPlace_0 : decode cX8_isWindowPlace 0 = .ok (.iload_n 0, 1) := by decide +kernel
theorem dX8_isWindowPlace_1 : decode cX8_isWindowPlace 1 = .ok (.bipush (-5), 2) := by decide +kernel
theorem dX8_isWindowPlace_3 : decode cX8_isWindowPlace 3 = .ok (.bipush 11, 2) := by decide +kernel
theorem dX8_isWindowPlace_5 : decode cX8_isWindowPlace 5 = .ok (.invokestatic 116, 3) := by decide +kernel
theorem dX8_isWindowPlace_8 : decode cX8_isWindowPlace 8 = .ok (.ifCond .eq 18, 3) := by decide +kernel
theorem dX8_isWindowPlace_11 : decode cX8_isWindowPlace 11 = .ok (.iload_n 1, 1) := by decide +kernel
theorem dX8_isWindowPlace_12 : decode cX8_isWindowPlace 12 = .ok (.bipush (-5), 2) := by decide +kernel
theorem dX8_isWindowPlace_14 : decode cX8_isWindowPlace 14 = .ok (.bipush 7, 2) := by decide +kernel
theorem dX8_isWindowPlace_16 : decode cX8_isWindowPlace 16 = .ok (.invokestatic 116, 3) := by decide +kernel
theorem dX8_isWindowPlace_19 : decode cX8_isWindowPlace 19 = .ok (.ifCond .eq 7, 3) := by decide +kernel
theorem dX8_isWindowPlace_22 : decode cX8_isWindowPlace 22 = .ok (.iconst 1, 1) := by decide +kernel
theorem dX8_isWindowPlace_23 : decode cX8_isWindowPlace 23 = .ok (.goto 4, 3) := by decide +kernel
theorem dX8_isWindowPlace_26 : decode cX8_isWindowPlace 26 = .ok (.iconst 0, 1) := by decide +kernel
theorem dX8_isWindowPlace_27 : decode cX8_isWindowPlace 27 = .ok (.ireturn, 1) := by decide +kernel
theorem dX8_isSize_0 : decode cX8_isSize 0 = .ok (.iload_n 0, 1) := by decide +kernel
theorem dX8_isSize_1 : decode cX8_isSize 1 = .ok (.iconst 1, 1) := by decide +kernel
theorem dX8_isSize_2 : decode cX8_isSize 2 = .ok (.bipush 12, 2) := by decide +kernel
theorem dX8_isSize_4 : decode cX8_isSize 4 = .ok (.invokestatic 116, 3) := by decide +kernel
theorem dX8_isSize_7 : decode cX8_isSize 7 = .ok (.ifCond .eq 17, 3) := by decide +kernel
theorem dX8_isSize_10 : decode cX8_isSize 10 = .ok (.iload_n 1, 1) := by decide +kernel
theorem dX8_isSize_11 : decode cX8_isSize 11 = .ok (.iconst 1, 1) := by decide +kernel
theorem dX8_isSize_12 : decode cX8_isSize 12 = .ok (.bipush 8, 2) := by decide +kernel
theorem dX8_isSize_14 : decode cX8_isSize 14 = .ok (.invokestatic 116, 3) := by decide +kernel
theorem dX8_isSize_17 : decode cX8_isSize 17 = .ok (.ifCond .eq 7, 3) := by decide +kernel
theorem dX8_isSize_20 : decode cX8_isSize 20 = .ok (.iconst 1, 1) := by decide +kernel
theorem dX8_isSize_21 : decode cX8_isSize 21 = .ok (.goto 4, 3) := by decide +kernel
theorem dX8_isSize_24 : decode cX8_isSize 24 = .ok (.iconst 0, 1) := by decide +kernel
theorem dX8_isSize_25 : decode cX8_isSize 25 = .ok (.ireturn, 1) := by decide +kernel
theorem dX8_screenCell_0 : decode cX8_screenCell 0 = .ok (.iload_n 0, 1) := by decide +kernel
theorem dX8_screenCell_1 : decode cX8_screenCell 1 = .ok (.iload_n 1, 1) := by decide +kernel
theorem dX8_screenCell_2 : decode cX8_screenCell 2 = .ok (.invokestatic 113, 3) := by decide +kernel
theorem dX8_screenCell_5 : decode cX8_screenCell 5 = .ok (.ifCond .ne 14, 3) := by decide +kernel
theorem dX8_screenCell_8 : decode cX8_screenCell 8 = .ok (.new 245, 3) := by decide +kernel
theorem dX8_screenCell_11 : decode cX8_screenCell 11 = .ok (.dup, 1) := by decide +kernel
theorem dX8_screenCell_12 : decode cX8_screenCell 12 = .ok (.ldc_w 329, 3) := by decide +kernel
theorem dX8_screenCell_15 : decode cX8_screenCell 15 = .ok (.invokespecial 249, 3) := by decide +kernel
theorem dX8_screenCell_18 : decode cX8_screenCell 18 = .ok (.athrow, 1) := by decide +kernel
theorem dX8_screenCell_19 : decode cX8_screenCell 19 = .ok (.iload_n 1, 1) := by decide +kernel
theorem dX8_screenCell_20 : decode cX8_screenCell 20 = .ok (.bipush 12, 2) := by decide +kernel
theorem dX8_screenCell_22 : decode cX8_screenCell 22 = .ok (.imul, 1) := by decide +kernel
theorem dX8_screenCell_23 : decode cX8_screenCell 23 = .ok (.iload_n 0, 1) := by decide +kernel
theorem dX8_screenCell_24 : decode cX8_screenCell 24 = .ok (.iadd, 1) := by decide +kernel
theorem dX8_screenCell_25 : decode cX8_screenCell 25 = .ok (.ireturn, 1) := by decide +kernel
theorem dX8_rightNumber_0 : decode cX8_rightNumber 0 = .ok (.iload_n 0, 1) := by decide +kernel
theorem dX8_rightNumber_1 : decode cX8_rightNumber 1 = .ok (.iconst 4, 1) := by decide +kernel
theorem dX8_rightNumber_2 : decode cX8_rightNumber 2 = .ok (.imul, 1) := by decide +kernel
theorem dX8_rightNumber_3 : decode cX8_rightNumber 3 = .ok (.iload_n 1, 1) := by decide +kernel
theorem dX8_rightNumber_4 : decode cX8_rightNumber 4 = .ok (.iadd, 1) := by decide +kernel
theorem dX8_rightNumber_5 : decode cX8_rightNumber 5 = .ok (.iconst 3, 1) := by decide +kernel
theorem dX8_rightNumber_6 : decode cX8_rightNumber 6 = .ok (.imul, 1) := by decide +kernel
theorem dX8_rightNumber_7 : decode cX8_rightNumber 7 = .ok (.iload_n 2, 1) := by decide +kernel
theorem dX8_rightNumber_8 : decode cX8_rightNumber 8 = .ok (.iadd, 1) := by decide +kernel
theorem dX8_rightNumber_9 : decode cX8_rightNumber 9 = .ok (.ireturn, 1) := by decide +kernel
theorem dX8_isSession_0 : decode cX8_isSession 0 = .ok (.iload_n 1, 1) := by decide +kernel
theorem dX8_isSession_1 : decode cX8_isSession 1 = .ok (.iconst 0, 1) := by decide +kernel
theorem dX8_isSession_2 : decode cX8_isSession 2 = .ok (.iconst 3, 1) := by decide +kernel
theorem dX8_isSession_3 : decode cX8_isSession 3 = .ok (.invokestatic 116, 3) := by decide +kernel
theorem dX8_isSession_6 : decode cX8_isSession 6 = .ok (.ifCond .eq 16, 3) := by decide +kernel
theorem dX8_isSession_9 : decode cX8_isSession 9 = .ok (.aload_n 0, 1) := by decide +kernel
theorem dX8_isSession_10 : decode cX8_isSession 10 = .ok (.getfield 11, 3) := by decide +kernel
theorem dX8_isSession_13 : decode cX8_isSession 13 = .ok (.iload_n 1, 1) := by decide +kernel
theorem dX8_isSession_14 : decode cX8_isSession 14 = .ok (.aaload, 1) := by decide +kernel
theorem dX8_isSession_15 : decode cX8_isSession 15 = .ok (.ifnull 7, 3) := by decide +kernel
theorem dX8_isSession_18 : decode cX8_isSession 18 = .ok (.iconst 1, 1) := by decide +kernel
theorem dX8_isSession_19 : decode cX8_isSession 19 = .ok (.goto 4, 3) := by decide +kernel
theorem dX8_isSession_22 : decode cX8_isSession 22 = .ok (.iconst 0, 1) := by decide +kernel
theorem dX8_isSession_23 : decode cX8_isSession 23 = .ok (.ireturn, 1) := by decide +kernel
theorem dX8_sessionAt_0 : decode cX8_sessionAt 0 = .ok (.aload_n 0, 1) := by decide +kernel
theorem dX8_sessionAt_1 : decode cX8_sessionAt 1 = .ok (.iload_n 1, 1) := by decide +kernel
theorem dX8_sessionAt_2 : decode cX8_sessionAt 2 = .ok (.invokevirtual 241, 3) := by decide +kernel
theorem dX8_sessionAt_5 : decode cX8_sessionAt 5 = .ok (.ifCond .ne 13, 3) := by decide +kernel
theorem dX8_sessionAt_8 : decode cX8_sessionAt 8 = .ok (.new 245, 3) := by decide +kernel
theorem dX8_sessionAt_11 : decode cX8_sessionAt 11 = .ok (.dup, 1) := by decide +kernel
theorem dX8_sessionAt_12 : decode cX8_sessionAt 12 = .ok (.ldc 247, 2) := by decide +kernel
theorem dX8_sessionAt_14 : decode cX8_sessionAt 14 = .ok (.invokespecial 249, 3) := by decide +kernel
theorem dX8_sessionAt_17 : decode cX8_sessionAt 17 = .ok (.athrow, 1) := by decide +kernel
theorem dX8_sessionAt_18 : decode cX8_sessionAt 18 = .ok (.aload_n 0, 1) := by decide +kernel
theorem dX8_sessionAt_19 : decode cX8_sessionAt 19 = .ok (.getfield 11, 3) := by decide +kernel
theorem dX8_sessionAt_22 : decode cX8_sessionAt 22 = .ok (.iload_n 1, 1) := by decide +kernel
theorem dX8_sessionAt_23 : decode cX8_sessionAt 23 = .ok (.aaload, 1) := by decide +kernel
theorem dX8_sessionAt_24 : decode cX8_sessionAt 24 = .ok (.areturn, 1) := by decide +kernel
theorem dX8_windowAt_0 : decode cX8_windowAt 0 = .ok (.iload_n 1, 1) := by decide +kernel
theorem dX8_windowAt_1 : decode cX8_windowAt 1 = .ok (.iconst 0, 1) := by decide +kernel
theorem dX8_windowAt_2 : decode cX8_windowAt 2 = .ok (.aload_n 0, 1) := by decide +kernel
theorem dX8_windowAt_3 : decode cX8_windowAt 3 = .ok (.getfield 53, 3) := by decide +kernel
theorem dX8_windowAt_6 : decode cX8_windowAt 6 = .ok (.iconst 1, 1) := by decide +kernel
theorem dX8_windowAt_7 : decode cX8_windowAt 7 = .ok (.isub, 1) := by decide +kernel
theorem dX8_windowAt_8 : decode cX8_windowAt 8 = .ok (.invokestatic 116, 3) := by decide +kernel
theorem dX8_windowAt_11 : decode cX8_windowAt 11 = .ok (.ifCond .ne 14, 3) := by decide +kernel
theorem dX8_windowAt_14 : decode cX8_windowAt 14 = .ok (.new 245, 3) := by decide +kernel
theorem dX8_windowAt_17 : decode cX8_windowAt 17 = .ok (.dup, 1) := by decide +kernel
theorem dX8_windowAt_18 : decode cX8_windowAt 18 = .ok (.ldc_w 331, 3) := by decide +kernel
theorem dX8_windowAt_21 : decode cX8_windowAt 21 = .ok (.invokespecial 249, 3) := by decide +kernel
theorem dX8_windowAt_24 : decode cX8_windowAt 24 = .ok (.athrow, 1) := by decide +kernel
theorem dX8_windowAt_25 : decode cX8_windowAt 25 = .ok (.aload_n 0, 1) := by decide +kernel
theorem dX8_windowAt_26 : decode cX8_windowAt 26 = .ok (.getfield 333, 3) := by decide +kernel
theorem dX8_windowAt_29 : decode cX8_windowAt 29 = .ok (.iload_n 1, 1) := by decide +kernel
theorem dX8_windowAt_30 : decode cX8_windowAt 30 = .ok (.aaload, 1) := by decide +kernel
theorem dX8_windowAt_31 : decode cX8_windowAt 31 = .ok (.astore_n 2, 1) := by decide +kernel
theorem dX8_windowAt_32 : decode cX8_windowAt 32 = .ok (.aload_n 2, 1) := by decide +kernel
theorem dX8_windowAt_33 : decode cX8_windowAt 33 = .ok (.ifnull 10, 3) := by decide +kernel
theorem dX8_windowAt_36 : decode cX8_windowAt 36 = .ok (.aload_n 2, 1) := by decide +kernel
theorem dX8_windowAt_37 : decode cX8_windowAt 37 = .ok (.getfield 72, 3) := by decide +kernel
theorem dX8_windowAt_40 : decode cX8_windowAt 40 = .ok (.ifCond .ne 14, 3) := by decide +kernel
theorem dX8_windowAt_43 : decode cX8_windowAt 43 = .ok (.new 245, 3) := by decide +kernel
theorem dX8_windowAt_46 : decode cX8_windowAt 46 = .ok (.dup, 1) := by decide +kernel
theorem dX8_windowAt_47 : decode cX8_windowAt 47 = .ok (.ldc_w 337, 3) := by decide +kernel
theorem dX8_windowAt_50 : decode cX8_windowAt 50 = .ok (.invokespecial 249, 3) := by decide +kernel
theorem dX8_windowAt_53 : decode cX8_windowAt 53 = .ok (.athrow, 1) := by decide +kernel
theorem dX8_windowAt_54 : decode cX8_windowAt 54 = .ok (.aload_n 2, 1) := by decide +kernel
theorem dX8_windowAt_55 : decode cX8_windowAt 55 = .ok (.areturn, 1) := by decide +kernel
theorem dX8_clientAt_0 : decode cX8_clientAt 0 = .ok (.iload_n 1, 1) := by decide +kernel
theorem dX8_clientAt_1 : decode cX8_clientAt 1 = .ok (.iconst 0, 1) := by decide +kernel
theorem dX8_clientAt_2 : decode cX8_clientAt 2 = .ok (.iconst 5, 1) := by decide +kernel
theorem dX8_clientAt_3 : decode cX8_clientAt 3 = .ok (.invokestatic 116, 3) := by decide +kernel
theorem dX8_clientAt_6 : decode cX8_clientAt 6 = .ok (.ifCond .eq 12, 3) := by decide +kernel
theorem dX8_clientAt_9 : decode cX8_clientAt 9 = .ok (.aload_n 0, 1) := by decide +kernel
theorem dX8_clientAt_10 : decode cX8_clientAt 10 = .ok (.getfield 17, 3) := by decide +kernel
theorem dX8_clientAt_13 : decode cX8_clientAt 13 = .ok (.iload_n 1, 1) := by decide +kernel
theorem dX8_clientAt_14 : decode cX8_clientAt 14 = .ok (.aaload, 1) := by decide +kernel
theorem dX8_clientAt_15 : decode cX8_clientAt 15 = .ok (.ifnonnull 14, 3) := by decide +kernel
theorem dX8_clientAt_18 : decode cX8_clientAt 18 = .ok (.new 245, 3) := by decide +kernel
theorem dX8_clientAt_21 : decode cX8_clientAt 21 = .ok (.dup, 1) := by decide +kernel
theorem dX8_clientAt_22 : decode cX8_clientAt 22 = .ok (.ldc_w 339, 3) := by decide +kernel
theorem dX8_clientAt_25 : decode cX8_clientAt 25 = .ok (.invokespecial 249, 3) := by decide +kernel
theorem dX8_clientAt_28 : decode cX8_clientAt 28 = .ok (.athrow, 1) := by decide +kernel
theorem dX8_clientAt_29 : decode cX8_clientAt 29 = .ok (.aload_n 0, 1) := by decide +kernel
theorem dX8_clientAt_30 : decode cX8_clientAt 30 = .ok (.getfield 17, 3) := by decide +kernel
theorem dX8_clientAt_33 : decode cX8_clientAt 33 = .ok (.iload_n 1, 1) := by decide +kernel
theorem dX8_clientAt_34 : decode cX8_clientAt 34 = .ok (.aaload, 1) := by decide +kernel
theorem dX8_clientAt_35 : decode cX8_clientAt 35 = .ok (.areturn, 1) := by decide +kernel
theorem dX8_nextChange_0 : decode cX8_nextChange 0 = .ok (.aload_n 0, 1) := by decide +kernel
theorem dX8_nextChange_1 : decode cX8_nextChange 1 = .ok (.iload_n 1, 1) := by decide +kernel
theorem dX8_nextChange_2 : decode cX8_nextChange 2 = .ok (.invokevirtual 139, 3) := by decide +kernel
theorem dX8_nextChange_5 : decode cX8_nextChange 5 = .ok (.getfield 341, 3) := by decide +kernel
theorem dX8_nextChange_8 : decode cX8_nextChange 8 = .ok (.astore_n 2, 1) := by decide +kernel
theorem dX8_nextChange_9 : decode cX8_nextChange 9 = .ok (.aload_n 2, 1) := by decide +kernel
theorem dX8_nextChange_10 : decode cX8_nextChange 10 = .ok (.invokevirtual 345, 3) := by decide +kernel
theorem dX8_nextChange_13 : decode cX8_nextChange 13 = .ok (.aload_n 2, 1) := by decide +kernel
theorem dX8_nextChange_14 : decode cX8_nextChange 14 = .ok (.getfield 170, 3) := by decide +kernel
theorem dX8_nextChange_17 : decode cX8_nextChange 17 = .ok (.bipush 32, 2) := by decide +kernel
theorem dX8_nextChange_19 : decode cX8_nextChange 19 = .ok (.if_icmp .ne 14, 3) := by decide +kernel
theorem dX8_nextChange_22 : decode cX8_nextChange 22 = .ok (.new 258, 3) := by decide +kernel
theorem dX8_nextChange_25 : decode cX8_nextChange 25 = .ok (.dup, 1) := by decide +kernel
theorem dX8_nextChange_26 : decode cX8_nextChange 26 = .ok (.ldc_w 348, 3) := by decide +kernel
theorem dX8_nextChange_29 : decode cX8_nextChange 29 = .ok (.invokespecial 262, 3) := by decide +kernel
theorem dX8_nextChange_32 : decode cX8_nextChange 32 = .ok (.athrow, 1) := by decide +kernel
theorem dX8_nextChange_33 : decode cX8_nextChange 33 = .ok (.aload_n 2, 1) := by decide +kernel
theorem dX8_nextChange_34 : decode cX8_nextChange 34 = .ok (.areturn, 1) := by decide +kernel
theorem dX8_canPass_0 : decode cX8_canPass 0 = .ok (.iconst 0, 1) := by decide +kernel
theorem dX8_canPass_1 : decode cX8_canPass 1 = .ok (.istore_n 3, 1) := by decide +kernel
theorem dX8_canPass_2 : decode cX8_canPass 2 = .ok (.iload_n 3, 1) := by decide +kernel
theorem dX8_canPass_3 : decode cX8_canPass 3 = .ok (.iconst 4, 1) := by decide +kernel
theorem dX8_canPass_4 : decode cX8_canPass 4 = .ok (.if_icmp .ge 56, 3) := by decide +kernel
theorem dX8_canPass_7 : decode cX8_canPass 7 = .ok (.aload_n 1, 1) := by decide +kernel
theorem dX8_canPass_8 : decode cX8_canPass 8 = .ok (.getfield 272, 3) := by decide +kernel
theorem dX8_canPass_11 : decode cX8_canPass 11 = .ok (.iconst 1, 1) := by decide +kernel
theorem dX8_canPass_12 : decode cX8_canPass 12 = .ok (.iload_n 3, 1) := by decide +kernel
theorem dX8_canPass_13 : decode cX8_canPass 13 = .ok (.ishl, 1) := by decide +kernel
theorem dX8_canPass_14 : decode cX8_canPass 14 = .ok (.iand, 1) := by decide +kernel
theorem dX8_canPass_15 : decode cX8_canPass 15 = .ok (.ifCond .eq 7, 3) := by decide +kernel
theorem dX8_canPass_18 : decode cX8_canPass 18 = .ok (.iconst 1, 1) := by decide +kernel
theorem dX8_canPass_19 : decode cX8_canPass 19 = .ok (.goto 4, 3) := by decide +kernel
theorem dX8_canPass_22 : decode cX8_canPass 22 = .ok (.iconst 0, 1) := by decide +kernel
theorem dX8_canPass_23 : decode cX8_canPass 23 = .ok (.istore 4, 2) := by decide +kernel
theorem dX8_canPass_25 : decode cX8_canPass 25 = .ok (.iload 4, 2) := by decide +kernel
theorem dX8_canPass_27 : decode cX8_canPass 27 = .ok (.ifCond .eq 27, 3) := by decide +kernel
theorem dX8_canPass_30 : decode cX8_canPass 30 = .ok (.iload_n 3, 1) := by decide +kernel
theorem dX8_canPass_31 : decode cX8_canPass 31 = .ok (.iload_n 2, 1) := by decide +kernel
theorem dX8_canPass_32 : decode cX8_canPass 32 = .ok (.if_icmp .eq 22, 3) := by decide +kernel
theorem dX8_canPass_35 : decode cX8_canPass 35 = .ok (.aload_n 0, 1) := by decide +kernel
theorem dX8_canPass_36 : decode cX8_canPass 36 = .ok (.getfield 21, 3) := by decide +kernel
theorem dX8_canPass_39 : decode cX8_canPass 39 = .ok (.iload_n 3, 1) := by decide +kernel
theorem dX8_canPass_40 : decode cX8_canPass 40 = .ok (.iload_n 2, 1) := by decide +kernel
theorem dX8_canPass_41 : decode cX8_canPass 41 = .ok (.aload_n 1, 1) := by decide +kernel
theorem dX8_canPass_42 : decode cX8_canPass 42 = .ok (.getfield 269, 3) := by decide +kernel
theorem dX8_canPass_45 : decode cX8_canPass 45 = .ok (.invokestatic 252, 3) := by decide +kernel
theorem dX8_canPass_48 : decode cX8_canPass 48 = .ok (.baload, 1) := by decide +kernel
theorem dX8_canPass_49 : decode cX8_canPass 49 = .ok (.ifCond .ne 5, 3) := by decide +kernel
theorem dX8_canPass_52 : decode cX8_canPass 52 = .ok (.iconst 0, 1) := by decide +kernel
theorem dX8_canPass_53 : decode cX8_canPass 53 = .ok (.ireturn, 1) := by decide +kernel
theorem dX8_canPass_54 : decode cX8_canPass 54 = .ok (.iinc 3 1, 3) := by decide +kernel
theorem dX8_canPass_57 : decode cX8_canPass 57 = .ok (.goto (-55), 3) := by decide +kernel
theorem dX8_canPass_60 : decode cX8_canPass 60 = .ok (.iconst 1, 1) := by decide +kernel
theorem dX8_canPass_61 : decode cX8_canPass 61 = .ok (.ireturn, 1) := by decide +kernel
theorem dX8_passTick_0 : decode cX8_passTick 0 = .ok (.aload_n 0, 1) := by decide +kernel
theorem dX8_passTick_1 : decode cX8_passTick 1 = .ok (.getfield 11, 3) := by decide +kernel
theorem dX8_passTick_4 : decode cX8_passTick 4 = .ok (.astore_n 1, 1) := by decide +kernel
theorem dX8_passTick_5 : decode cX8_passTick 5 = .ok (.aload_n 1, 1) := by decide +kernel
theorem dX8_passTick_6 : decode cX8_passTick 6 = .ok (.arraylength, 1) := by decide +kernel
theorem dX8_passTick_7 : decode cX8_passTick 7 = .ok (.istore_n 2, 1) := by decide +kernel
theorem dX8_passTick_8 : decode cX8_passTick 8 = .ok (.iconst 0, 1) := by decide +kernel
theorem dX8_passTick_9 : decode cX8_passTick 9 = .ok (.istore_n 3, 1) := by decide +kernel
theorem dX8_passTick_10 : decode cX8_passTick 10 = .ok (.iload_n 3, 1) := by decide +kernel
theorem dX8_passTick_11 : decode cX8_passTick 11 = .ok (.iload_n 2, 1) := by decide +kernel
theorem dX8_passTick_12 : decode cX8_passTick 12 = .ok (.if_icmp .ge 24, 3) := by decide +kernel
theorem dX8_passTick_15 : decode cX8_passTick 15 = .ok (.aload_n 1, 1) := by decide +kernel
theorem dX8_passTick_16 : decode cX8_passTick 16 = .ok (.iload_n 3, 1) := by decide +kernel
theorem dX8_passTick_17 : decode cX8_passTick 17 = .ok (.aaload, 1) := by decide +kernel
theorem dX8_passTick_18 : decode cX8_passTick 18 = .ok (.astore 4, 2) := by decide +kernel
theorem dX8_passTick_20 : decode cX8_passTick 20 = .ok (.aload 4, 2) := by decide +kernel
theorem dX8_passTick_22 : decode cX8_passTick 22 = .ok (.ifnull 8, 3) := by decide +kernel
theorem dX8_passTick_25 : decode cX8_passTick 25 = .ok (.aload 4, 2) := by decide +kernel
theorem dX8_passTick_27 : decode cX8_passTick 27 = .ok (.invokevirtual 350, 3) := by decide +kernel
theorem dX8_passTick_30 : decode cX8_passTick 30 = .ok (.iinc 3 1, 3) := by decide +kernel
theorem dX8_passTick_33 : decode cX8_passTick 33 = .ok (.goto (-23), 3) := by decide +kernel
theorem dX8_passTick_36 : decode cX8_passTick 36 = .ok (.aload_n 0, 1) := by decide +kernel
theorem dX8_passTick_37 : decode cX8_passTick 37 = .ok (.invokevirtual 353, 3) := by decide +kernel
theorem dX8_passTick_40 : decode cX8_passTick 40 = .ok (.istore_n 1, 1) := by decide +kernel
theorem dX8_passTick_41 : decode cX8_passTick 41 = .ok (.aload_n 0, 1) := by decide +kernel
theorem dX8_passTick_42 : decode cX8_passTick 42 = .ok (.getfield 11, 3) := by decide +kernel
theorem dX8_passTick_45 : decode cX8_passTick 45 = .ok (.astore_n 2, 1) := by decide +kernel
theorem dX8_passTick_46 : decode cX8_passTick 46 = .ok (.aload_n 2, 1) := by decide +kernel
theorem dX8_passTick_47 : decode cX8_passTick 47 = .ok (.arraylength, 1) := by decide +kernel
theorem dX8_passTick_48 : decode cX8_passTick 48 = .ok (.istore_n 3, 1) := by decide +kernel
theorem dX8_passTick_49 : decode cX8_passTick 49 = .ok (.iconst 0, 1) := by decide +kernel
theorem dX8_passTick_50 : decode cX8_passTick 50 = .ok (.istore 4, 2) := by decide +kernel
theorem dX8_passTick_52 : decode cX8_passTick 52 = .ok (.iload 4, 2) := by decide +kernel
theorem dX8_passTick_54 : decode cX8_passTick 54 = .ok (.iload_n 3, 1) := by decide +kernel
theorem dX8_passTick_55 : decode cX8_passTick 55 = .ok (.if_icmp .ge 30, 3) := by decide +kernel
theorem dX8_passTick_58 : decode cX8_passTick 58 = .ok (.aload_n 2, 1) := by decide +kernel
theorem dX8_passTick_59 : decode cX8_passTick 59 = .ok (.iload 4, 2) := by decide +kernel
theorem dX8_passTick_61 : decode cX8_passTick 61 = .ok (.aaload, 1) := by decide +kernel
theorem dX8_passTick_62 : decode cX8_passTick 62 = .ok (.astore 5, 2) := by decide +kernel
theorem dX8_passTick_64 : decode cX8_passTick 64 = .ok (.aload 5, 2) := by decide +kernel
theorem dX8_passTick_66 : decode cX8_passTick 66 = .ok (.ifnull 13, 3) := by decide +kernel
theorem dX8_passTick_69 : decode cX8_passTick 69 = .ok (.aload 5, 2) := by decide +kernel
theorem dX8_passTick_71 : decode cX8_passTick 71 = .ok (.invokevirtual 356, 3) := by decide +kernel
theorem dX8_passTick_74 : decode cX8_passTick 74 = .ok (.aload 5, 2) := by decide +kernel
theorem dX8_passTick_76 : decode cX8_passTick 76 = .ok (.invokevirtual 359, 3) := by decide +kernel
theorem dX8_passTick_79 : decode cX8_passTick 79 = .ok (.iinc 4 1, 3) := by decide +kernel
theorem dX8_passTick_82 : decode cX8_passTick 82 = .ok (.goto (-30), 3) := by decide +kernel
theorem dX8_passTick_85 : decode cX8_passTick 85 = .ok (.iload_n 1, 1) := by decide +kernel
theorem dX8_passTick_86 : decode cX8_passTick 86 = .ok (.ireturn, 1) := by decide +kernel
theorem dX8_runLine_0 : decode cX8_runLine 0 = .ok (.aload_n 0, 1) := by decide +kernel
theorem dX8_runLine_1 : decode cX8_runLine 1 = .ok (.getfield 17, 3) := by decide +kernel
theorem dX8_runLine_4 : decode cX8_runLine 4 = .ok (.astore_n 1, 1) := by decide +kernel
theorem dX8_runLine_5 : decode cX8_runLine 5 = .ok (.aload_n 1, 1) := by decide +kernel
theorem dX8_runLine_6 : decode cX8_runLine 6 = .ok (.arraylength, 1) := by decide +kernel
theorem dX8_runLine_7 : decode cX8_runLine 7 = .ok (.istore_n 2, 1) := by decide +kernel
theorem dX8_runLine_8 : decode cX8_runLine 8 = .ok (.iconst 0, 1) := by decide +kernel
theorem dX8_runLine_9 : decode cX8_runLine 9 = .ok (.istore_n 3, 1) := by decide +kernel
theorem dX8_runLine_10 : decode cX8_runLine 10 = .ok (.iload_n 3, 1) := by decide +kernel
theorem dX8_runLine_11 : decode cX8_runLine 11 = .ok (.iload_n 2, 1) := by decide +kernel
theorem dX8_runLine_12 : decode cX8_runLine 12 = .ok (.if_icmp .ge 48, 3) := by decide +kernel
theorem dX8_runLine_15 : decode cX8_runLine 15 = .ok (.aload_n 1, 1) := by decide +kernel
theorem dX8_runLine_16 : decode cX8_runLine 16 = .ok (.iload_n 3, 1) := by decide +kernel
theorem dX8_runLine_17 : decode cX8_runLine 17 = .ok (.aaload, 1) := by decide +kernel
theorem dX8_runLine_18 : decode cX8_runLine 18 = .ok (.astore 4, 2) := by decide +kernel
theorem dX8_runLine_20 : decode cX8_runLine 20 = .ok (.aload 4, 2) := by decide +kernel
theorem dX8_runLine_22 : decode cX8_runLine 22 = .ok (.ifnull 32, 3) := by decide +kernel
theorem dX8_runLine_25 : decode cX8_runLine 25 = .ok (.aload 4, 2) := by decide +kernel
theorem dX8_runLine_27 : decode cX8_runLine 27 = .ok (.aload 4, 2) := by decide +kernel
theorem dX8_runLine_29 : decode cX8_runLine 29 = .ok (.getfield 146, 3) := by decide +kernel
theorem dX8_runLine_32 : decode cX8_runLine 32 = .ok (.aload 4, 2) := by decide +kernel
theorem dX8_runLine_34 : decode cX8_runLine 34 = .ok (.getfield 143, 3) := by decide +kernel
theorem dX8_runLine_37 : decode cX8_runLine 37 = .ok (.iadd, 1) := by decide +kernel
theorem dX8_runLine_38 : decode cX8_runLine 38 = .ok (.bipush 60, 2) := by decide +kernel
theorem dX8_runLine_40 : decode cX8_runLine 40 = .ok (.invokestatic 362, 3) := by decide +kernel
theorem dX8_runLine_43 : decode cX8_runLine 43 = .ok (.putfield 146, 3) := by decide +kernel
theorem dX8_runLine_46 : decode cX8_runLine 46 = .ok (.aload 4, 2) := by decide +kernel
theorem dX8_runLine_48 : decode cX8_runLine 48 = .ok (.getfield 341, 3) := by decide +kernel
theorem dX8_runLine_51 : decode cX8_runLine 51 = .ok (.invokevirtual 345, 3) := by decide +kernel
theorem dX8_runLine_54 : decode cX8_runLine 54 = .ok (.iinc 3 1, 3) := by decide +kernel
theorem dX8_runLine_57 : decode cX8_runLine 57 = .ok (.goto (-47), 3) := by decide +kernel
theorem dX8_runLine_60 : decode cX8_runLine 60 = .ok (.bipush 24, 2) := by decide +kernel
theorem dX8_runLine_62 : decode cX8_runLine 62 = .ok (.istore_n 1, 1) := by decide +kernel
theorem dX8_runLine_63 : decode cX8_runLine 63 = .ok (.iconst 0, 1) := by decide +kernel
theorem dX8_runLine_64 : decode cX8_runLine 64 = .ok (.istore_n 2, 1) := by decide +kernel
theorem dX8_runLine_65 : decode cX8_runLine 65 = .ok (.iload_n 2, 1) := by decide +kernel
theorem dX8_runLine_66 : decode cX8_runLine 66 = .ok (.bipush 24, 2) := by decide +kernel
theorem dX8_runLine_68 : decode cX8_runLine 68 = .ok (.if_icmp .ge 64, 3) := by decide +kernel
theorem dX8_runLine_71 : decode cX8_runLine 71 = .ok (.aload_n 0, 1) := by decide +kernel
theorem dX8_runLine_72 : decode cX8_runLine 72 = .ok (.iload_n 1, 1) := by decide +kernel
theorem dX8_runLine_73 : decode cX8_runLine 73 = .ok (.invokevirtual 367, 3) := by decide +kernel
theorem dX8_runLine_76 : decode cX8_runLine 76 = .ok (.astore_n 3, 1) := by decide +kernel
theorem dX8_runLine_77 : decode cX8_runLine 77 = .ok (.aload_n 3, 1) := by decide +kernel
theorem dX8_runLine_78 : decode cX8_runLine 78 = .ok (.ifnonnull 6, 3) := by decide +kernel
theorem dX8_runLine_81 : decode cX8_runLine 81 = .ok (.goto 51, 3) := by decide +kernel
theorem dX8_runLine_84 : decode cX8_runLine 84 = .ok (.aload_n 3, 1) := by decide +kernel
theorem dX8_runLine_85 : decode cX8_runLine 85 = .ok (.getfield 341, 3) := by decide +kernel
theorem dX8_runLine_88 : decode cX8_runLine 88 = .ok (.astore 4, 2) := by decide +kernel
theorem dX8_runLine_90 : decode cX8_runLine 90 = .ok (.iload_n 1, 1) := by decide +kernel
theorem dX8_runLine_91 : decode cX8_runLine 91 = .ok (.aload 4, 2) := by decide +kernel
theorem dX8_runLine_93 : decode cX8_runLine 93 = .ok (.getfield 176, 3) := by decide +kernel
theorem dX8_runLine_96 : decode cX8_runLine 96 = .ok (.isub, 1) := by decide +kernel
theorem dX8_runLine_97 : decode cX8_runLine 97 = .ok (.istore_n 1, 1) := by decide +kernel
theorem dX8_runLine_98 : decode cX8_runLine 98 = .ok (.aload_n 3, 1) := by decide +kernel
theorem dX8_runLine_99 : decode cX8_runLine 99 = .ok (.aload_n 3, 1) := by decide +kernel
theorem dX8_runLine_100 : decode cX8_runLine 100 = .ok (.getfield 146, 3) := by decide +kernel
theorem dX8_runLine_103 : decode cX8_runLine 103 = .ok (.aload 4, 2) := by decide +kernel
theorem dX8_runLine_105 : decode cX8_runLine 105 = .ok (.getfield 176, 3) := by decide +kernel
theorem dX8_runLine_108 : decode cX8_runLine 108 = .ok (.isub, 1) := by decide +kernel
theorem dX8_runLine_109 : decode cX8_runLine 109 = .ok (.iconst 0, 1) := by decide +kernel
theorem dX8_runLine_110 : decode cX8_runLine 110 = .ok (.invokestatic 370, 3) := by decide +kernel
theorem dX8_runLine_113 : decode cX8_runLine 113 = .ok (.putfield 146, 3) := by decide +kernel
theorem dX8_runLine_116 : decode cX8_runLine 116 = .ok (.aload 4, 2) := by decide +kernel
theorem dX8_runLine_118 : decode cX8_runLine 118 = .ok (.invokevirtual 373, 3) := by decide +kernel
theorem dX8_runLine_121 : decode cX8_runLine 121 = .ok (.aload 4, 2) := by decide +kernel
theorem dX8_runLine_123 : decode cX8_runLine 123 = .ok (.invokevirtual 345, 3) := by decide +kernel
theorem dX8_runLine_126 : decode cX8_runLine 126 = .ok (.iinc 2 1, 3) := by decide +kernel
theorem dX8_runLine_129 : decode cX8_runLine 129 = .ok (.goto (-64), 3) := by decide +kernel
theorem dX8_runLine_132 : decode cX8_runLine 132 = .ok (.bipush 24, 2) := by decide +kernel
theorem dX8_runLine_134 : decode cX8_runLine 134 = .ok (.iload_n 1, 1) := by decide +kernel
theorem dX8_runLine_135 : decode cX8_runLine 135 = .ok (.isub, 1) := by decide +kernel
theorem dX8_runLine_136 : decode cX8_runLine 136 = .ok (.ireturn, 1) := by decide +kernel
theorem dX8_richestServed_0 : decode cX8_richestServed 0 = .ok (.aconst_null, 1) := by decide +kernel
theorem dX8_richestServed_1 : decode cX8_richestServed 1 = .ok (.astore_n 2, 1) := by decide +kernel
theorem dX8_richestServed_2 : decode cX8_richestServed 2 = .ok (.aload_n 0, 1) := by decide +kernel
theorem dX8_richestServed_3 : decode cX8_richestServed 3 = .ok (.getfield 17, 3) := by decide +kernel
theorem dX8_richestServed_6 : decode cX8_richestServed 6 = .ok (.astore_n 3, 1) := by decide +kernel
theorem dX8_richestServed_7 : decode cX8_richestServed 7 = .ok (.aload_n 3, 1) := by decide +kernel
theorem dX8_richestServed_8 : decode cX8_richestServed 8 = .ok (.arraylength, 1) := by decide +kernel
theorem dX8_richestServed_9 : decode cX8_richestServed 9 = .ok (.istore 4, 2) := by decide +kernel
theorem dX8_richestServed_11 : decode cX8_richestServed 11 = .ok (.iconst 0, 1) := by decide +kernel
theorem dX8_richestServed_12 : decode cX8_richestServed 12 = .ok (.istore 5, 2) := by decide +kernel
theorem dX8_richestServed_14 : decode cX8_richestServed 14 = .ok (.iload 5, 2) := by decide +kernel
theorem dX8_richestServed_16 : decode cX8_richestServed 16 = .ok (.iload 4, 2) := by decide +kernel
theorem dX8_richestServed_18 : decode cX8_richestServed 18 = .ok (.if_icmp .ge 64, 3) := by decide +kernel
theorem dX8_richestServed_21 : decode cX8_richestServed 21 = .ok (.aload_n 3, 1) := by decide +kernel
theorem dX8_richestServed_22 : decode cX8_richestServed 22 = .ok (.iload 5, 2) := by decide +kernel
theorem dX8_richestServed_24 : decode cX8_richestServed 24 = .ok (.aaload, 1) := by decide +kernel
theorem dX8_richestServed_25 : decode cX8_richestServed 25 = .ok (.astore 6, 2) := by decide +kernel
theorem dX8_richestServed_27 : decode cX8_richestServed 27 = .ok (.aload 6, 2) := by decide +kernel
theorem dX8_richestServed_29 : decode cX8_richestServed 29 = .ok (.ifnull 47, 3) := by decide +kernel
theorem dX8_richestServed_32 : decode cX8_richestServed 32 = .ok (.aload 6, 2) := by decide +kernel
theorem dX8_richestServed_34 : decode cX8_richestServed 34 = .ok (.getfield 341, 3) := by decide +kernel
theorem dX8_richestServed_37 : decode cX8_richestServed 37 = .ok (.getfield 170, 3) := by decide +kernel
theorem dX8_richestServed_40 : decode cX8_richestServed 40 = .ok (.bipush 32, 2) := by decide +kernel
theorem dX8_richestServed_42 : decode cX8_richestServed 42 = .ok (.if_icmp .eq 34, 3) := by decide +kernel
theorem dX8_richestServed_45 : decode cX8_richestServed 45 = .ok (.aload 6, 2) := by decide +kernel
theorem dX8_richestServed_47 : decode cX8_richestServed 47 = .ok (.getfield 341, 3) := by decide +kernel
theorem dX8_richestServed_50 : decode cX8_richestServed 50 = .ok (.getfield 176, 3) := by decide +kernel
theorem dX8_richestServed_53 : decode cX8_richestServed 53 = .ok (.iload_n 1, 1) := by decide +kernel
theorem dX8_richestServed_54 : decode cX8_richestServed 54 = .ok (.if_icmp .gt 22, 3) := by decide +kernel
theorem dX8_richestServed_57 : decode cX8_richestServed 57 = .ok (.aload_n 2, 1) := by decide +kernel
theorem dX8_richestServed_58 : decode cX8_richestServed 58 = .ok (.ifnull 15, 3) := by decide +kernel
theorem dX8_richestServed_61 : decode cX8_richestServed 61 = .ok (.aload 6, 2) := by decide +kernel
theorem dX8_richestServed_63 : decode cX8_richestServed 63 = .ok (.getfield 146, 3) := by decide +kernel
theorem dX8_richestServed_66 : decode cX8_richestServed 66 = .ok (.aload_n 2, 1) := by decide +kernel
theorem dX8_richestServed_67 : decode cX8_richestServed 67 = .ok (.getfield 146, 3) := by decide +kernel
theorem dX8_richestServed_70 : decode cX8_richestServed 70 = .ok (.if_icmp .le 6, 3) := by decide +kernel
theorem dX8_richestServed_73 : decode cX8_richestServed 73 = .ok (.aload 6, 2) := by decide +kernel
theorem dX8_richestServed_75 : decode cX8_richestServed 75 = .ok (.astore_n 2, 1) := by decide +kernel
theorem dX8_richestServed_76 : decode cX8_richestServed 76 = .ok (.iinc 5 1, 3) := by decide +kernel
theorem dX8_richestServed_79 : decode cX8_richestServed 79 = .ok (.goto (-65), 3) := by decide +kernel
theorem dX8_richestServed_82 : decode cX8_richestServed 82 = .ok (.aload_n 2, 1) := by decide +kernel
theorem dX8_richestServed_83 : decode cX8_richestServed 83 = .ok (.areturn, 1) := by decide +kernel
theorem dJx00060_init_a7421_0 : decode cJx00060_init_a7421 0 = .ok (.aload_n 0, 1) := by decide +kernel
theorem dJx00060_init_a7421_1 : decode cJx00060_init_a7421 1 = .ok (.aload_n 1, 1) := by decide +kernel
theorem dJx00060_init_a7421_2 : decode cJx00060_init_a7421 2 = .ok (.invokespecial 7, 3) := by decide +kernel
theorem dJx00060_init_a7421_5 : decode cJx00060_init_a7421 5 = .ok (.return_, 1) := by decide +kernel
theorem dJ9_max_7cf53_0 : decode cJ9_max_7cf53 0 = .ok (.iload_n 0, 1) := by decide +kernel
theorem dJ9_max_7cf53_1 : decode cJ9_max_7cf53 1 = .ok (.iload_n 1, 1) := by decide +kernel
theorem dJ9_max_7cf53_2 : decode cJ9_max_7cf53 2 = .ok (.if_icmp .lt 7, 3) := by decide +kernel
theorem dJ9_max_7cf53_5 : decode cJ9_max_7cf53 5 = .ok (.iload_n 0, 1) := by decide +kernel
theorem dJ9_max_7cf53_6 : decode cJ9_max_7cf53 6 = .ok (.goto 4, 3) := by decide +kernel
theorem dJ9_max_7cf53_9 : decode cJ9_max_7cf53 9 = .ok (.iload_n 1, 1) := by decide +kernel
theorem dJ9_max_7cf53_10 : decode cJ9_max_7cf53 10 = .ok (.ireturn, 1) := by decide +kernel
theorem dJ9_min_7cf53_0 : decode cJ9_min_7cf53 0 = .ok (.iload_n 0, 1) := by decide +kernel
theorem dJ9_min_7cf53_1 : decode cJ9_min_7cf53 1 = .ok (.iload_n 1, 1) := by decide +kernel
theorem dJ9_min_7cf53_2 : decode cJ9_min_7cf53 2 = .ok (.if_icmp .gt 7, 3) := by decide +kernel
theorem dJ9_min_7cf53_5 : decode cJ9_min_7cf53 5 = .ok (.iload_n 0, 1) := by decide +kernel
theorem dJ9_min_7cf53_6 : decode cJ9_min_7cf53 6 = .ok (.goto 4, 3) := by decide +kernel
theorem dJ9_min_7cf53_9 : decode cJ9_min_7cf53 9 = .ok (.iload_n 1, 1) := by decide +kernel
theorem dJ9_min_7cf53_10 : decode cJ9_min_7cf53 10 = .ok (.ireturn, 1) := by decide +kernel
theorem dJ0_charAt_5068e_0 : decode cJ0_charAt_5068e 0 = .ok (.aload_n 0, 1) := by decide +kernel
theorem dJ0_charAt_5068e_1 : decode cJ0_charAt_5068e 1 = .ok (.invokevirtual 492, 3) := by decide +kernel
theorem dJ0_charAt_5068e_4 : decode cJ0_charAt_5068e 4 = .ok (.ifCond .eq 12, 3) := by decide +kernel
theorem dJ0_charAt_5068e_7 : decode cJ0_charAt_5068e 7 = .ok (.aload_n 0, 1) := by decide +kernel
theorem dJ0_charAt_5068e_8 : decode cJ0_charAt_5068e 8 = .ok (.getfield 9, 3) := by decide +kernel
theorem dJ0_charAt_5068e_11 : decode cJ0_charAt_5068e 11 = .ok (.iload_n 1, 1) := by decide +kernel
theorem dJ0_charAt_5068e_12 : decode cJ0_charAt_5068e 12 = .ok (.invokestatic 495, 3) := by decide +kernel
theorem dJ0_charAt_5068e_15 : decode cJ0_charAt_5068e 15 = .ok (.ireturn, 1) := by decide +kernel
theorem dJ0_charAt_5068e_16 : decode cJ0_charAt_5068e 16 = .ok (.aload_n 0, 1) := by decide +kernel
theorem dJ0_charAt_5068e_17 : decode cJ0_charAt_5068e 17 = .ok (.getfield 9, 3) := by decide +kernel
theorem dJ0_charAt_5068e_20 : decode cJ0_charAt_5068e 20 = .ok (.iload_n 1, 1) := by decide +kernel
theorem dJ0_charAt_5068e_21 : decode cJ0_charAt_5068e 21 = .ok (.invokestatic 498, 3) := by decide +kernel
theorem dJ0_charAt_5068e_24 : decode cJ0_charAt_5068e 24 = .ok (.ireturn, 1) := by decide +kernel
theorem dJ0_isLatin1_aae02_0 : decode cJ0_isLatin1_aae02 0 = .ok (.getstatic 38, 3) := by decide +kernel
theorem dJ0_isLatin1_aae02_3 : decode cJ0_isLatin1_aae02 3 = .ok (.ifCond .eq 14, 3) := by decide +kernel
theorem dJ0_isLatin1_aae02_6 : decode cJ0_isLatin1_aae02 6 = .ok (.aload_n 0, 1) := by decide +kernel
theorem dJ0_isLatin1_aae02_7 : decode cJ0_isLatin1_aae02 7 = .ok (.getfield 15, 3) := by decide +kernel
theorem dJ0_isLatin1_aae02_10 : decode cJ0_isLatin1_aae02 10 = .ok (.ifCond .ne 7, 3) := by decide +kernel
theorem dJ0_isLatin1_aae02_13 : decode cJ0_isLatin1_aae02 13 = .ok (.iconst 1, 1) := by decide +kernel
theorem dJ0_isLatin1_aae02_14 : decode cJ0_isLatin1_aae02 14 = .ok (.goto 4, 3) := by decide +kernel
theorem dJ0_isLatin1_aae02_17 : decode cJ0_isLatin1_aae02 17 = .ok (.iconst 0, 1) := by decide +kernel
theorem dJ0_isLatin1_aae02_18 : decode cJ0_isLatin1_aae02 18 = .ok (.ireturn, 1) := by decide +kernel
theorem dJ0_checkIndex_df160_0 : decode cJ0_checkIndex_df160 0 = .ok (.iload_n 0, 1) := by decide +kernel
theorem dJ0_checkIndex_df160_1 : decode cJ0_checkIndex_df160 1 = .ok (.iload_n 1, 1) := by decide +kernel
theorem dJ0_checkIndex_df160_2 : decode cJ0_checkIndex_df160 2 = .ok (.getstatic 1053, 3) := by decide +kernel
theorem dJ0_checkIndex_df160_5 : decode cJ0_checkIndex_df160 5 = .ok (.invokestatic 1059, 3) := by decide +kernel
theorem dJ0_checkIndex_df160_8 : decode cJ0_checkIndex_df160 8 = .ok (.pop, 1) := by decide +kernel
theorem dJ0_checkIndex_df160_9 : decode cJ0_checkIndex_df160 9 = .ok (.return_, 1) := by decide +kernel
theorem dJ1_charAt_3b067_0 : decode cJ1_charAt_3b067 0 = .ok (.iload_n 1, 1) := by decide +kernel
theorem dJ1_charAt_3b067_1 : decode cJ1_charAt_3b067 1 = .ok (.aload_n 0, 1) := by decide +kernel
theorem dJ1_charAt_3b067_2 : decode cJ1_charAt_3b067 2 = .ok (.arraylength, 1) := by decide +kernel
theorem dJ1_charAt_3b067_3 : decode cJ1_charAt_3b067 3 = .ok (.invokestatic 9, 3) := by decide +kernel
theorem dJ1_charAt_3b067_6 : decode cJ1_charAt_3b067 6 = .ok (.aload_n 0, 1) := by decide +kernel
theorem dJ1_charAt_3b067_7 : decode cJ1_charAt_3b067 7 = .ok (.iload_n 1, 1) := by decide +kernel
theorem dJ1_charAt_3b067_8 : decode cJ1_charAt_3b067 8 = .ok (.baload, 1) := by decide +kernel
theorem dJ1_charAt_3b067_9 : decode cJ1_charAt_3b067 9 = .ok (.sipush 255, 3) := by decide +kernel
theorem dJ1_charAt_3b067_12 : decode cJ1_charAt_3b067 12 = .ok (.iand, 1) := by decide +kernel
theorem dJ1_charAt_3b067_13 : decode cJ1_charAt_3b067 13 = .ok (.i2c, 1) := by decide +kernel
theorem dJ1_charAt_3b067_14 : decode cJ1_charAt_3b067 14 = .ok (.ireturn, 1) := by decide +kernel
theorem dJ2_getChar_3b067_0 : decode cJ2_getChar_3b067 0 = .ok (.getstatic 44, 3) := by decide +kernel
theorem dJ2_getChar_3b067_3 : decode cJ2_getChar_3b067 3 = .ok (.ifCond .ne 25, 3) := by decide +kernel
theorem dJ2_getChar_3b067_6 : decode cJ2_getChar_3b067 6 = .ok (.iload_n 1, 1) := by decide +kernel
theorem dJ2_getChar_3b067_7 : decode cJ2_getChar_3b067 7 = .ok (.ifCond .lt 11, 3) := by decide +kernel
theorem dJ2_getChar_3b067_10 : decode cJ2_getChar_3b067 10 = .ok (.iload_n 1, 1) := by decide +kernel
theorem dJ2_getChar_3b067_11 : decode cJ2_getChar_3b067 11 = .ok (.aload_n 0, 1) := by decide +kernel
theorem dJ2_getChar_3b067_12 : decode cJ2_getChar_3b067 12 = .ok (.invokestatic 48, 3) := by decide +kernel
theorem dJ2_getChar_3b067_15 : decode cJ2_getChar_3b067 15 = .ok (.if_icmp .lt 13, 3) := by decide +kernel
theorem dJ2_getChar_3b067_18 : decode cJ2_getChar_3b067 18 = .ok (.new 52, 3) := by decide +kernel
theorem dJ2_getChar_3b067_21 : decode cJ2_getChar_3b067 21 = .ok (.dup, 1) := by decide +kernel
theorem dJ2_getChar_3b067_22 : decode cJ2_getChar_3b067 22 = .ok (.ldc 54, 2) := by decide +kernel
theorem dJ2_getChar_3b067_24 : decode cJ2_getChar_3b067 24 = .ok (.invokespecial 56, 3) := by decide +kernel
theorem dJ2_getChar_3b067_27 : decode cJ2_getChar_3b067 27 = .ok (.athrow, 1) := by decide +kernel
theorem dJ2_getChar_3b067_28 : decode cJ2_getChar_3b067 28 = .ok (.iload_n 1, 1) := by decide +kernel
theorem dJ2_getChar_3b067_29 : decode cJ2_getChar_3b067 29 = .ok (.iconst 1, 1) := by decide +kernel
theorem dJ2_getChar_3b067_30 : decode cJ2_getChar_3b067 30 = .ok (.ishl, 1) := by decide +kernel
theorem dJ2_getChar_3b067_31 : decode cJ2_getChar_3b067 31 = .ok (.istore_n 1, 1) := by decide +kernel
theorem dJ2_getChar_3b067_32 : decode cJ2_getChar_3b067 32 = .ok (.aload_n 0, 1) := by decide +kernel
theorem dJ2_getChar_3b067_33 : decode cJ2_getChar_3b067 33 = .ok (.iload_n 1, 1) := by decide +kernel
theorem dJ2_getChar_3b067_34 : decode cJ2_getChar_3b067 34 = .ok (.iinc 1 1, 3) := by decide +kernel
theorem dJ2_getChar_3b067_37 : decode cJ2_getChar_3b067 37 = .ok (.baload, 1) := by decide +kernel
theorem dJ2_getChar_3b067_38 : decode cJ2_getChar_3b067 38 = .ok (.sipush 255, 3) := by decide +kernel
theorem dJ2_getChar_3b067_41 : decode cJ2_getChar_3b067 41 = .ok (.iand, 1) := by decide +kernel
theorem dJ2_getChar_3b067_42 : decode cJ2_getChar_3b067 42 = .ok (.getstatic 59, 3) := by decide +kernel
theorem dJ2_getChar_3b067_45 : decode cJ2_getChar_3b067 45 = .ok (.ishl, 1) := by decide +kernel
theorem dJ2_getChar_3b067_46 : decode cJ2_getChar_3b067 46 = .ok (.aload_n 0, 1) := by decide +kernel
theorem dJ2_getChar_3b067_47 : decode cJ2_getChar_3b067 47 = .ok (.iload_n 1, 1) := by decide +kernel
theorem dJ2_getChar_3b067_48 : decode cJ2_getChar_3b067 48 = .ok (.baload, 1) := by decide +kernel
theorem dJ2_getChar_3b067_49 : decode cJ2_getChar_3b067 49 = .ok (.sipush 255, 3) := by decide +kernel
theorem dJ2_getChar_3b067_52 : decode cJ2_getChar_3b067 52 = .ok (.iand, 1) := by decide +kernel
theorem dJ2_getChar_3b067_53 : decode cJ2_getChar_3b067 53 = .ok (.getstatic 63, 3) := by decide +kernel
theorem dJ2_getChar_3b067_56 : decode cJ2_getChar_3b067 56 = .ok (.ishl, 1) := by decide +kernel
theorem dJ2_getChar_3b067_57 : decode cJ2_getChar_3b067 57 = .ok (.ior, 1) := by decide +kernel
theorem dJ2_getChar_3b067_58 : decode cJ2_getChar_3b067 58 = .ok (.i2c, 1) := by decide +kernel
theorem dJ2_getChar_3b067_59 : decode cJ2_getChar_3b067 59 = .ok (.ireturn, 1) := by decide +kernel
theorem dJ2_length_9d52b_0 : decode cJ2_length_9d52b 0 = .ok (.aload_n 0, 1) := by decide +kernel
theorem dJ2_length_9d52b_1 : decode cJ2_length_9d52b 1 = .ok (.arraylength, 1) := by decide +kernel
theorem dJ2_length_9d52b_2 : decode cJ2_length_9d52b 2 = .ok (.iconst 1, 1) := by decide +kernel
theorem dJ2_length_9d52b_3 : decode cJ2_length_9d52b 3 = .ok (.ishr, 1) := by decide +kernel
theorem dJ2_length_9d52b_4 : decode cJ2_length_9d52b 4 = .ok (.ireturn, 1) := by decide +kernel
theorem dJ2_charAt_3b067_0 : decode cJ2_charAt_3b067 0 = .ok (.iload_n 1, 1) := by decide +kernel
theorem dJ2_charAt_3b067_1 : decode cJ2_charAt_3b067 1 = .ok (.aload_n 0, 1) := by decide +kernel
theorem dJ2_charAt_3b067_2 : decode cJ2_charAt_3b067 2 = .ok (.invokestatic 67, 3) := by decide +kernel
theorem dJ2_charAt_3b067_5 : decode cJ2_charAt_3b067 5 = .ok (.aload_n 0, 1) := by decide +kernel
theorem dJ2_charAt_3b067_6 : decode cJ2_charAt_3b067 6 = .ok (.iload_n 1, 1) := by decide +kernel
theorem dJ2_charAt_3b067_7 : decode cJ2_charAt_3b067 7 = .ok (.invokestatic 71, 3) := by decide +kernel
theorem dJ2_charAt_3b067_10 : decode cJ2_charAt_3b067 10 = .ok (.ireturn, 1) := by decide +kernel
theorem dJ2_checkIndex_2214a_0 : decode cJ2_checkIndex_2214a 0 = .ok (.iload_n 0, 1) := by decide +kernel
theorem dJ2_checkIndex_2214a_1 : decode cJ2_checkIndex_2214a 1 = .ok (.aload_n 1, 1) := by decide +kernel
theorem dJ2_checkIndex_2214a_2 : decode cJ2_checkIndex_2214a 2 = .ok (.invokestatic 48, 3) := by decide +kernel
theorem dJ2_checkIndex_2214a_5 : decode cJ2_checkIndex_2214a 5 = .ok (.invokestatic 414, 3) := by decide +kernel
theorem dJ2_checkIndex_2214a_8 : decode cJ2_checkIndex_2214a 8 = .ok (.return_, 1) := by decide +kernel
theorem dJxa1e45_init_da8c8_0 : decode cJxa1e45_init_da8c8 0 = .ok (.aload_n 0, 1) := by decide +kernel
theorem dJxa1e45_init_da8c8_1 : decode cJxa1e45_init_da8c8 1 = .ok (.invokespecial 1, 3) := by decide +kernel
theorem dJxa1e45_init_da8c8_4 : decode cJxa1e45_init_da8c8 4 = .ok (.return_, 1) := by decide +kernel
theorem dJxc12de_init_da8c8_0 : decode cJxc12de_init_da8c8 0 = .ok (.aload_n 0, 1) := by decide +kernel
theorem dJxc12de_init_da8c8_1 : decode cJxc12de_init_da8c8 1 = .ok (.invokespecial 1, 3) := by decide +kernel
theorem dJxc12de_init_da8c8_4 : decode cJxc12de_init_da8c8 4 = .ok (.aload_n 0, 1) := by decide +kernel
theorem dJxc12de_init_da8c8_5 : decode cJxc12de_init_da8c8 5 = .ok (.iconst 0, 1) := by decide +kernel
theorem dJxc12de_init_da8c8_6 : decode cJxc12de_init_da8c8 6 = .ok (.putfield 7, 3) := by decide +kernel
theorem dJxc12de_init_da8c8_9 : decode cJxc12de_init_da8c8 9 = .ok (.return_, 1) := by decide +kernel
theorem dJx4a65c_init_da8c8_0 : decode cJx4a65c_init_da8c8 0 = .ok (.aload_n 0, 1) := by decide +kernel
theorem dJx4a65c_init_da8c8_1 : decode cJx4a65c_init_da8c8 1 = .ok (.invokespecial 1, 3) := by decide +kernel
theorem dJx4a65c_init_da8c8_4 : decode cJx4a65c_init_da8c8 4 = .ok (.aload_n 0, 1) := by decide +kernel
theorem dJx4a65c_init_da8c8_5 : decode cJx4a65c_init_da8c8 5 = .ok (.getstatic 39, 3) := by decide +kernel
theorem dJx4a65c_init_da8c8_8 : decode cJx4a65c_init_da8c8 8 = .ok (.putfield 9, 3) := by decide +kernel
theorem dJx4a65c_init_da8c8_11 : decode cJx4a65c_init_da8c8 11 = .ok (.return_, 1) := by decide +kernel
theorem dJx4a65c_grow_92f84_0 : decode cJx4a65c_grow_92f84 0 = .ok (.aload_n 0, 1) := by decide +kernel
theorem dJx4a65c_grow_92f84_1 : decode cJx4a65c_grow_92f84 1 = .ok (.getfield 9, 3) := by decide +kernel
theorem dJx4a65c_grow_92f84_4 : decode cJx4a65c_grow_92f84 4 = .ok (.arraylength, 1) := by decide +kernel
theorem dJx4a65c_grow_92f84_5 : decode cJx4a65c_grow_92f84 5 = .ok (.istore_n 2, 1) := by decide +kernel
theorem dJx4a65c_grow_92f84_6 : decode cJx4a65c_grow_92f84 6 = .ok (.iload_n 2, 1) := by decide +kernel
theorem dJx4a65c_grow_92f84_7 : decode cJx4a65c_grow_92f84 7 = .ok (.ifCond .gt 13, 3) := by decide +kernel
theorem dJx4a65c_grow_92f84_10 : decode cJx4a65c_grow_92f84 10 = .ok (.aload_n 0, 1) := by decide +kernel
theorem dJx4a65c_grow_92f84_11 : decode cJx4a65c_grow_92f84 11 = .ok (.getfield 9, 3) := by decide +kernel
theorem dJx4a65c_grow_92f84_14 : decode cJx4a65c_grow_92f84 14 = .ok (.getstatic 39, 3) := by decide +kernel
theorem dJx4a65c_grow_92f84_17 : decode cJx4a65c_grow_92f84 17 = .ok (.if_acmp .eq 28, 3) := by decide +kernel
theorem dJx4a65c_grow_92f84_20 : decode cJx4a65c_grow_92f84 20 = .ok (.iload_n 2, 1) := by decide +kernel
theorem dJx4a65c_grow_92f84_21 : decode cJx4a65c_grow_92f84 21 = .ok (.iload_n 1, 1) := by decide +kernel
theorem dJx4a65c_grow_92f84_22 : decode cJx4a65c_grow_92f84 22 = .ok (.iload_n 2, 1) := by decide +kernel
theorem dJx4a65c_grow_92f84_23 : decode cJx4a65c_grow_92f84 23 = .ok (.isub, 1) := by decide +kernel
theorem dJx4a65c_grow_92f84_24 : decode cJx4a65c_grow_92f84 24 = .ok (.iload_n 2, 1) := by decide +kernel
theorem dJx4a65c_grow_92f84_25 : decode cJx4a65c_grow_92f84 25 = .ok (.iconst 1, 1) := by decide +kernel
theorem dJx4a65c_grow_92f84_26 : decode cJx4a65c_grow_92f84 26 = .ok (.ishr, 1) := by decide +kernel
theorem dJx4a65c_grow_92f84_27 : decode cJx4a65c_grow_92f84 27 = .ok (.invokestatic 73, 3) := by decide +kernel
theorem dJx4a65c_grow_92f84_30 : decode cJx4a65c_grow_92f84 30 = .ok (.istore_n 3, 1) := by decide +kernel
theorem dJx4a65c_grow_92f84_31 : decode cJx4a65c_grow_92f84 31 = .ok (.aload_n 0, 1) := by decide +kernel
theorem dJx4a65c_grow_92f84_32 : decode cJx4a65c_grow_92f84 32 = .ok (.aload_n 0, 1) := by decide +kernel
theorem dJx4a65c_grow_92f84_33 : decode cJx4a65c_grow_92f84 33 = .ok (.getfield 9, 3) := by decide +kernel
theorem dJx4a65c_grow_92f84_36 : decode cJx4a65c_grow_92f84 36 = .ok (.iload_n 3, 1) := by decide +kernel
theorem dJx4a65c_grow_92f84_37 : decode cJx4a65c_grow_92f84 37 = .ok (.invokestatic 66, 3) := by decide +kernel
theorem dJx4a65c_grow_92f84_40 : decode cJx4a65c_grow_92f84 40 = .ok (.dup_x1, 1) := by decide +kernel
theorem dJx4a65c_grow_92f84_41 : decode cJx4a65c_grow_92f84 41 = .ok (.putfield 9, 3) := by decide +kernel
theorem dJx4a65c_grow_92f84_44 : decode cJx4a65c_grow_92f84 44 = .ok (.areturn, 1) := by decide +kernel
theorem dJx4a65c_grow_92f84_45 : decode cJx4a65c_grow_92f84 45 = .ok (.aload_n 0, 1) := by decide +kernel
theorem dJx4a65c_grow_92f84_46 : decode cJx4a65c_grow_92f84 46 = .ok (.bipush 10, 2) := by decide +kernel
theorem dJx4a65c_grow_92f84_48 : decode cJx4a65c_grow_92f84 48 = .ok (.iload_n 1, 1) := by decide +kernel
theorem dJx4a65c_grow_92f84_49 : decode cJx4a65c_grow_92f84 49 = .ok (.invokestatic 79, 3) := by decide +kernel
theorem dJx4a65c_grow_92f84_52 : decode cJx4a65c_grow_92f84 52 = .ok (.anewarray 7, 3) := by decide +kernel
theorem dJx4a65c_grow_92f84_55 : decode cJx4a65c_grow_92f84 55 = .ok (.dup_x1, 1) := by decide +kernel
theorem dJx4a65c_grow_92f84_56 : decode cJx4a65c_grow_92f84 56 = .ok (.putfield 9, 3) := by decide +kernel
theorem dJx4a65c_grow_92f84_59 : decode cJx4a65c_grow_92f84 59 = .ok (.areturn, 1) := by decide +kernel
theorem dJx4a65c_grow_d5877_0 : decode cJx4a65c_grow_d5877 0 = .ok (.aload_n 0, 1) := by decide +kernel
theorem dJx4a65c_grow_d5877_1 : decode cJx4a65c_grow_d5877 1 = .ok (.aload_n 0, 1) := by decide +kernel
theorem dJx4a65c_grow_d5877_2 : decode cJx4a65c_grow_d5877 2 = .ok (.getfield 48, 3) := by decide +kernel
theorem dJx4a65c_grow_d5877_5 : decode cJx4a65c_grow_d5877 5 = .ok (.iconst 1, 1) := by decide +kernel
theorem dJx4a65c_grow_d5877_6 : decode cJx4a65c_grow_d5877 6 = .ok (.iadd, 1) := by decide +kernel
theorem dJx4a65c_grow_d5877_7 : decode cJx4a65c_grow_d5877 7 = .ok (.invokevirtual 69, 3) := by decide +kernel
theorem dJx4a65c_grow_d5877_10 : decode cJx4a65c_grow_d5877 10 = .ok (.areturn, 1) := by decide +kernel
theorem dJx4a65c_size_8abf5_0 : decode cJx4a65c_size_8abf5 0 = .ok (.aload_n 0, 1) := by decide +kernel
theorem dJx4a65c_size_8abf5_1 : decode cJx4a65c_size_8abf5 1 = .ok (.getfield 48, 3) := by decide +kernel
theorem dJx4a65c_size_8abf5_4 : decode cJx4a65c_size_8abf5 4 = .ok (.ireturn, 1) := by decide +kernel
theorem dJx4a65c_elementData_915e3_0 : decode cJx4a65c_elementData_915e3 0 = .ok (.aload_n 0, 1) := by decide +kernel
theorem dJx4a65c_elementData_915e3_1 : decode cJx4a65c_elementData_915e3 1 = .ok (.getfield 9, 3) := by decide +kernel
theorem dJx4a65c_elementData_915e3_4 : decode cJx4a65c_elementData_915e3 4 = .ok (.iload_n 1, 1) := by decide +kernel
theorem dJx4a65c_elementData_915e3_5 : decode cJx4a65c_elementData_915e3 5 = .ok (.aaload, 1) := by decide +kernel
theorem dJx4a65c_elementData_915e3_6 : decode cJx4a65c_elementData_915e3 6 = .ok (.areturn, 1) := by decide +kernel
theorem dJx4a65c_get_915e3_0 : decode cJx4a65c_get_915e3 0 = .ok (.iload_n 1, 1) := by decide +kernel
theorem dJx4a65c_get_915e3_1 : decode cJx4a65c_get_915e3 1 = .ok (.aload_n 0, 1) := by decide +kernel
theorem dJx4a65c_get_915e3_2 : decode cJx4a65c_get_915e3 2 = .ok (.getfield 48, 3) := by decide +kernel
theorem dJx4a65c_get_915e3_5 : decode cJx4a65c_get_915e3 5 = .ok (.invokestatic 118, 3) := by decide +kernel
theorem dJx4a65c_get_915e3_8 : decode cJx4a65c_get_915e3 8 = .ok (.pop, 1) := by decide +kernel
theorem dJx4a65c_get_915e3_9 : decode cJx4a65c_get_915e3 9 = .ok (.aload_n 0, 1) := by decide +kernel
theorem dJx4a65c_get_915e3_10 : decode cJx4a65c_get_915e3 10 = .ok (.iload_n 1, 1) := by decide +kernel
theorem dJx4a65c_get_915e3_11 : decode cJx4a65c_get_915e3 11 = .ok (.invokevirtual 123, 3) := by decide +kernel
theorem dJx4a65c_get_915e3_14 : decode cJx4a65c_get_915e3 14 = .ok (.areturn, 1) := by decide +kernel
theorem dJx4a65c_add_72be8_0 : decode cJx4a65c_add_72be8 0 = .ok (.iload_n 3, 1) := by decide +kernel
theorem dJx4a65c_add_72be8_1 : decode cJx4a65c_add_72be8 1 = .ok (.aload_n 2, 1) := by decide +kernel
theorem dJx4a65c_add_72be8_2 : decode cJx4a65c_add_72be8 2 = .ok (.arraylength, 1) := by decide +kernel
theorem dJx4a65c_add_72be8_3 : decode cJx4a65c_add_72be8 3 = .ok (.if_icmp .ne 8, 3) := by decide +kernel
theorem dJx4a65c_add_72be8_6 : decode cJx4a65c_add_72be8 6 = .ok (.aload_n 0, 1) := by decide +kernel
theorem dJx4a65c_add_72be8_7 : decode cJx4a65c_add_72be8 7 = .ok (.invokevirtual 129, 3) := by decide +kernel
theorem dJx4a65c_add_72be8_10 : decode cJx4a65c_add_72be8 10 = .ok (.astore_n 2, 1) := by decide +kernel
theorem dJx4a65c_add_72be8_11 : decode cJx4a65c_add_72be8 11 = .ok (.aload_n 2, 1) := by decide +kernel
theorem dJx4a65c_add_72be8_12 : decode cJx4a65c_add_72be8 12 = .ok (.iload_n 3, 1) := by decide +kernel
theorem dJx4a65c_add_72be8_13 : decode cJx4a65c_add_72be8 13 = .ok (.aload_n 1, 1) := by decide +kernel
theorem dJx4a65c_add_72be8_14 : decode cJx4a65c_add_72be8 14 = .ok (.aastore, 1) := by decide +kernel
theorem dJx4a65c_add_72be8_15 : decode cJx4a65c_add_72be8 15 = .ok (.aload_n 0, 1) := by decide +kernel
theorem dJx4a65c_add_72be8_16 : decode cJx4a65c_add_72be8 16 = .ok (.iload_n 3, 1) := by decide +kernel
theorem dJx4a65c_add_72be8_17 : decode cJx4a65c_add_72be8 17 = .ok (.iconst 1, 1) := by decide +kernel
theorem dJx4a65c_add_72be8_18 : decode cJx4a65c_add_72be8 18 = .ok (.iadd, 1) := by decide +kernel
theorem dJx4a65c_add_72be8_19 : decode cJx4a65c_add_72be8 19 = .ok (.putfield 48, 3) := by decide +kernel
theorem dJx4a65c_add_72be8_22 : decode cJx4a65c_add_72be8 22 = .ok (.return_, 1) := by decide +kernel
theorem dJx4a65c_add_9ea2d_0 : decode cJx4a65c_add_9ea2d 0 = .ok (.aload_n 0, 1) := by decide +kernel
theorem dJx4a65c_add_9ea2d_1 : decode cJx4a65c_add_9ea2d 1 = .ok (.dup, 1) := by decide +kernel
theorem dJx4a65c_add_9ea2d_2 : decode cJx4a65c_add_9ea2d 2 = .ok (.getfield 63, 3) := by decide +kernel
theorem dJx4a65c_add_9ea2d_5 : decode cJx4a65c_add_9ea2d 5 = .ok (.iconst 1, 1) := by decide +kernel
theorem dJx4a65c_add_9ea2d_6 : decode cJx4a65c_add_9ea2d 6 = .ok (.iadd, 1) := by decide +kernel
theorem dJx4a65c_add_9ea2d_7 : decode cJx4a65c_add_9ea2d 7 = .ok (.putfield 63, 3) := by decide +kernel
theorem dJx4a65c_add_9ea2d_10 : decode cJx4a65c_add_9ea2d 10 = .ok (.aload_n 0, 1) := by decide +kernel
theorem dJx4a65c_add_9ea2d_11 : decode cJx4a65c_add_9ea2d 11 = .ok (.aload_n 1, 1) := by decide +kernel
theorem dJx4a65c_add_9ea2d_12 : decode cJx4a65c_add_9ea2d 12 = .ok (.aload_n 0, 1) := by decide +kernel
theorem dJx4a65c_add_9ea2d_13 : decode cJx4a65c_add_9ea2d 13 = .ok (.getfield 9, 3) := by decide +kernel
theorem dJx4a65c_add_9ea2d_16 : decode cJx4a65c_add_9ea2d 16 = .ok (.aload_n 0, 1) := by decide +kernel
theorem dJx4a65c_add_9ea2d_17 : decode cJx4a65c_add_9ea2d 17 = .ok (.getfield 48, 3) := by decide +kernel
theorem dJx4a65c_add_9ea2d_20 : decode cJx4a65c_add_9ea2d 20 = .ok (.invokevirtual 131, 3) := by decide +kernel
theorem dJx4a65c_add_9ea2d_23 : decode cJx4a65c_add_9ea2d 23 = .ok (.iconst 1, 1) := by decide +kernel
theorem dJx4a65c_add_9ea2d_24 : decode cJx4a65c_add_9ea2d 24 = .ok (.ireturn, 1) := by decide +kernel
theorem dJx4a65c_remove_915e3_0 : decode cJx4a65c_remove_915e3 0 = .ok (.iload_n 1, 1) := by decide +kernel
theorem dJx4a65c_remove_915e3_1 : decode cJx4a65c_remove_915e3 1 = .ok (.aload_n 0, 1) := by decide +kernel
theorem dJx4a65c_remove_915e3_2 : decode cJx4a65c_remove_915e3 2 = .ok (.getfield 48, 3) := by decide +kernel
theorem dJx4a65c_remove_915e3_5 : decode cJx4a65c_remove_915e3 5 = .ok (.invokestatic 118, 3) := by decide +kernel
theorem dJx4a65c_remove_915e3_8 : decode cJx4a65c_remove_915e3 8 = .ok (.pop, 1) := by decide +kernel
theorem dJx4a65c_remove_915e3_9 : decode cJx4a65c_remove_915e3 9 = .ok (.aload_n 0, 1) := by decide +kernel
theorem dJx4a65c_remove_915e3_10 : decode cJx4a65c_remove_915e3 10 = .ok (.getfield 9, 3) := by decide +kernel
theorem dJx4a65c_remove_915e3_13 : decode cJx4a65c_remove_915e3 13 = .ok (.astore_n 2, 1) := by decide +kernel
theorem dJx4a65c_remove_915e3_14 : decode cJx4a65c_remove_915e3 14 = .ok (.aload_n 2, 1) := by decide +kernel
theorem dJx4a65c_remove_915e3_15 : decode cJx4a65c_remove_915e3 15 = .ok (.iload_n 1, 1) := by decide +kernel
theorem dJx4a65c_remove_915e3_16 : decode cJx4a65c_remove_915e3 16 = .ok (.aaload, 1) := by decide +kernel
theorem dJx4a65c_remove_915e3_17 : decode cJx4a65c_remove_915e3 17 = .ok (.astore_n 3, 1) := by decide +kernel
theorem dJx4a65c_remove_915e3_18 : decode cJx4a65c_remove_915e3 18 = .ok (.aload_n 0, 1) := by decide +kernel
theorem dJx4a65c_remove_915e3_19 : decode cJx4a65c_remove_915e3 19 = .ok (.aload_n 2, 1) := by decide +kernel
theorem dJx4a65c_remove_915e3_20 : decode cJx4a65c_remove_915e3 20 = .ok (.iload_n 1, 1) := by decide +kernel
theorem dJx4a65c_remove_915e3_21 : decode cJx4a65c_remove_915e3 21 = .ok (.invokevirtual 144, 3) := by decide +kernel
theorem dJx4a65c_remove_915e3_24 : decode cJx4a65c_remove_915e3 24 = .ok (.aload_n 3, 1) := by decide +kernel
theorem dJx4a65c_remove_915e3_25 : decode cJx4a65c_remove_915e3 25 = .ok (.areturn, 1) := by decide +kernel
theorem dJx4a65c_fastRemove_b59b0_0 : decode cJx4a65c_fastRemove_b59b0 0 = .ok (.aload_n 0, 1) := by decide +kernel
theorem dJx4a65c_fastRemove_b59b0_1 : decode cJx4a65c_fastRemove_b59b0 1 = .ok (.dup, 1) := by decide +kernel
theorem dJx4a65c_fastRemove_b59b0_2 : decode cJx4a65c_fastRemove_b59b0 2 = .ok (.getfield 63, 3) := by decide +kernel
theorem dJx4a65c_fastRemove_b59b0_5 : decode cJx4a65c_fastRemove_b59b0 5 = .ok (.iconst 1, 1) := by decide +kernel
theorem dJx4a65c_fastRemove_b59b0_6 : decode cJx4a65c_fastRemove_b59b0 6 = .ok (.iadd, 1) := by decide +kernel
theorem dJx4a65c_fastRemove_b59b0_7 : decode cJx4a65c_fastRemove_b59b0 7 = .ok (.putfield 63, 3) := by decide +kernel
theorem dJx4a65c_fastRemove_b59b0_10 : decode cJx4a65c_fastRemove_b59b0 10 = .ok (.aload_n 0, 1) := by decide +kernel
theorem dJx4a65c_fastRemove_b59b0_11 : decode cJx4a65c_fastRemove_b59b0 11 = .ok (.getfield 48, 3) := by decide +kernel
theorem dJx4a65c_fastRemove_b59b0_14 : decode cJx4a65c_fastRemove_b59b0 14 = .ok (.iconst 1, 1) := by decide +kernel
theorem dJx4a65c_fastRemove_b59b0_15 : decode cJx4a65c_fastRemove_b59b0 15 = .ok (.isub, 1) := by decide +kernel
theorem dJx4a65c_fastRemove_b59b0_16 : decode cJx4a65c_fastRemove_b59b0 16 = .ok (.dup, 1) := by decide +kernel
theorem dJx4a65c_fastRemove_b59b0_17 : decode cJx4a65c_fastRemove_b59b0 17 = .ok (.istore_n 3, 1) := by decide +kernel
theorem dJx4a65c_fastRemove_b59b0_18 : decode cJx4a65c_fastRemove_b59b0 18 = .ok (.iload_n 2, 1) := by decide +kernel
theorem dJx4a65c_fastRemove_b59b0_19 : decode cJx4a65c_fastRemove_b59b0 19 = .ok (.if_icmp .le 15, 3) := by decide +kernel
theorem dJx4a65c_fastRemove_b59b0_22 : decode cJx4a65c_fastRemove_b59b0 22 = .ok (.aload_n 1, 1) := by decide +kernel
theorem dJx4a65c_fastRemove_b59b0_23 : decode cJx4a65c_fastRemove_b59b0 23 = .ok (.iload_n 2, 1) := by decide +kernel
theorem dJx4a65c_fastRemove_b59b0_24 : decode cJx4a65c_fastRemove_b59b0 24 = .ok (.iconst 1, 1) := by decide +kernel
theorem dJx4a65c_fastRemove_b59b0_25 : decode cJx4a65c_fastRemove_b59b0 25 = .ok (.iadd, 1) := by decide +kernel
theorem dJx4a65c_fastRemove_b59b0_26 : decode cJx4a65c_fastRemove_b59b0 26 = .ok (.aload_n 1, 1) := by decide +kernel
theorem dJx4a65c_fastRemove_b59b0_27 : decode cJx4a65c_fastRemove_b59b0 27 = .ok (.iload_n 2, 1) := by decide +kernel
theorem dJx4a65c_fastRemove_b59b0_28 : decode cJx4a65c_fastRemove_b59b0 28 = .ok (.iload_n 3, 1) := by decide +kernel
theorem dJx4a65c_fastRemove_b59b0_29 : decode cJx4a65c_fastRemove_b59b0 29 = .ok (.iload_n 2, 1) := by decide +kernel
theorem dJx4a65c_fastRemove_b59b0_30 : decode cJx4a65c_fastRemove_b59b0 30 = .ok (.isub, 1) := by decide +kernel
theorem dJx4a65c_fastRemove_b59b0_31 : decode cJx4a65c_fastRemove_b59b0 31 = .ok (.invokestatic 112, 3) := by decide +kernel
theorem dJx4a65c_fastRemove_b59b0_34 : decode cJx4a65c_fastRemove_b59b0 34 = .ok (.aload_n 1, 1) := by decide +kernel
theorem dJx4a65c_fastRemove_b59b0_35 : decode cJx4a65c_fastRemove_b59b0 35 = .ok (.aload_n 0, 1) := by decide +kernel
theorem dJx4a65c_fastRemove_b59b0_36 : decode cJx4a65c_fastRemove_b59b0 36 = .ok (.iload_n 3, 1) := by decide +kernel
theorem dJx4a65c_fastRemove_b59b0_37 : decode cJx4a65c_fastRemove_b59b0 37 = .ok (.dup_x1, 1) := by decide +kernel
theorem dJx4a65c_fastRemove_b59b0_38 : decode cJx4a65c_fastRemove_b59b0 38 = .ok (.putfield 48, 3) := by decide +kernel
theorem dJx4a65c_fastRemove_b59b0_41 : decode cJx4a65c_fastRemove_b59b0 41 = .ok (.aconst_null, 1) := by decide +kernel
theorem dJx4a65c_fastRemove_b59b0_42 : decode cJx4a65c_fastRemove_b59b0 42 = .ok (.aastore, 1) := by decide +kernel
theorem dJx4a65c_fastRemove_b59b0_43 : decode cJx4a65c_fastRemove_b59b0 43 = .ok (.return_, 1) := by decide +kernel
theorem dJx4a65c_clear_da8c8_0 : decode cJx4a65c_clear_da8c8 0 = .ok (.aload_n 0, 1) := by decide +kernel
theorem dJx4a65c_clear_da8c8_1 : decode cJx4a65c_clear_da8c8 1 = .ok (.dup, 1) := by decide +kernel
theorem dJx4a65c_clear_da8c8_2 : decode cJx4a65c_clear_da8c8 2 = .ok (.getfield 63, 3) := by decide +kernel
theorem dJx4a65c_clear_da8c8_5 : decode cJx4a65c_clear_da8c8 5 = .ok (.iconst 1, 1) := by decide +kernel
theorem dJx4a65c_clear_da8c8_6 : decode cJx4a65c_clear_da8c8 6 = .ok (.iadd, 1) := by decide +kernel
theorem dJx4a65c_clear_da8c8_7 : decode cJx4a65c_clear_da8c8 7 = .ok (.putfield 63, 3) := by decide +kernel
theorem dJx4a65c_clear_da8c8_10 : decode cJx4a65c_clear_da8c8 10 = .ok (.aload_n 0, 1) := by decide +kernel
theorem dJx4a65c_clear_da8c8_11 : decode cJx4a65c_clear_da8c8 11 = .ok (.getfield 9, 3) := by decide +kernel
theorem dJx4a65c_clear_da8c8_14 : decode cJx4a65c_clear_da8c8 14 = .ok (.astore_n 1, 1) := by decide +kernel
theorem dJx4a65c_clear_da8c8_15 : decode cJx4a65c_clear_da8c8 15 = .ok (.aload_n 0, 1) := by decide +kernel
theorem dJx4a65c_clear_da8c8_16 : decode cJx4a65c_clear_da8c8 16 = .ok (.getfield 48, 3) := by decide +kernel
theorem dJx4a65c_clear_da8c8_19 : decode cJx4a65c_clear_da8c8 19 = .ok (.istore_n 2, 1) := by decide +kernel
theorem dJx4a65c_clear_da8c8_20 : decode cJx4a65c_clear_da8c8 20 = .ok (.aload_n 0, 1) := by decide +kernel
theorem dJx4a65c_clear_da8c8_21 : decode cJx4a65c_clear_da8c8 21 = .ok (.iconst 0, 1) := by decide +kernel
theorem dJx4a65c_clear_da8c8_22 : decode cJx4a65c_clear_da8c8 22 = .ok (.dup_x1, 1) := by decide +kernel
theorem dJx4a65c_clear_da8c8_23 : decode cJx4a65c_clear_da8c8 23 = .ok (.putfield 48, 3) := by decide +kernel
theorem dJx4a65c_clear_da8c8_26 : decode cJx4a65c_clear_da8c8 26 = .ok (.istore_n 3, 1) := by decide +kernel
theorem dJx4a65c_clear_da8c8_27 : decode cJx4a65c_clear_da8c8 27 = .ok (.iload_n 3, 1) := by decide +kernel
theorem dJx4a65c_clear_da8c8_28 : decode cJx4a65c_clear_da8c8 28 = .ok (.iload_n 2, 1) := by decide +kernel
theorem dJx4a65c_clear_da8c8_29 : decode cJx4a65c_clear_da8c8 29 = .ok (.if_icmp .ge 13, 3) := by decide +kernel
theorem dJx4a65c_clear_da8c8_32 : decode cJx4a65c_clear_da8c8 32 = .ok (.aload_n 1, 1) := by decide +kernel
theorem dJx4a65c_clear_da8c8_33 : decode cJx4a65c_clear_da8c8 33 = .ok (.iload_n 3, 1) := by decide +kernel
theorem dJx4a65c_clear_da8c8_34 : decode cJx4a65c_clear_da8c8 34 = .ok (.aconst_null, 1) := by decide +kernel
theorem dJx4a65c_clear_da8c8_35 : decode cJx4a65c_clear_da8c8 35 = .ok (.aastore, 1) := by decide +kernel
theorem dJx4a65c_clear_da8c8_36 : decode cJx4a65c_clear_da8c8 36 = .ok (.iinc 3 1, 3) := by decide +kernel
theorem dJx4a65c_clear_da8c8_39 : decode cJx4a65c_clear_da8c8 39 = .ok (.goto (-12), 3) := by decide +kernel
theorem dJx4a65c_clear_da8c8_42 : decode cJx4a65c_clear_da8c8 42 = .ok (.return_, 1) := by decide +kernel
theorem dJ7_fill_53178_0 : decode cJ7_fill_53178 0 = .ok (.iconst 0, 1) := by decide +kernel
theorem dJ7_fill_53178_1 : decode cJ7_fill_53178 1 = .ok (.istore_n 2, 1) := by decide +kernel
theorem dJ7_fill_53178_2 : decode cJ7_fill_53178 2 = .ok (.aload_n 0, 1) := by decide +kernel
theorem dJ7_fill_53178_3 : decode cJ7_fill_53178 3 = .ok (.arraylength, 1) := by decide +kernel
theorem dJ7_fill_53178_4 : decode cJ7_fill_53178 4 = .ok (.istore_n 3, 1) := by decide +kernel
theorem dJ7_fill_53178_5 : decode cJ7_fill_53178 5 = .ok (.iload_n 2, 1) := by decide +kernel
theorem dJ7_fill_53178_6 : decode cJ7_fill_53178 6 = .ok (.iload_n 3, 1) := by decide +kernel
theorem dJ7_fill_53178_7 : decode cJ7_fill_53178 7 = .ok (.if_icmp .ge 13, 3) := by decide +kernel
theorem dJ7_fill_53178_10 : decode cJ7_fill_53178 10 = .ok (.aload_n 0, 1) := by decide +kernel
theorem dJ7_fill_53178_11 : decode cJ7_fill_53178 11 = .ok (.iload_n 2, 1) := by decide +kernel
theorem dJ7_fill_53178_12 : decode cJ7_fill_53178 12 = .ok (.iload_n 1, 1) := by decide +kernel
theorem dJ7_fill_53178_13 : decode cJ7_fill_53178 13 = .ok (.iastore, 1) := by decide +kernel
theorem dJ7_fill_53178_14 : decode cJ7_fill_53178 14 = .ok (.iinc 2 1, 3) := by decide +kernel
theorem dJ7_fill_53178_17 : decode cJ7_fill_53178 17 = .ok (.goto (-12), 3) := by decide +kernel
theorem dJ7_fill_53178_20 : decode cJ7_fill_53178 20 = .ok (.return_, 1) := by decide +kernel
theorem dJ7_copyOf_1904c_0 : decode cJ7_copyOf_1904c 0 = .ok (.aload_n 0, 1) := by decide +kernel
theorem dJ7_copyOf_1904c_1 : decode cJ7_copyOf_1904c 1 = .ok (.iload_n 1, 1) := by decide +kernel
theorem dJ7_copyOf_1904c_2 : decode cJ7_copyOf_1904c 2 = .ok (.aload_n 0, 1) := by decide +kernel
theorem dJ7_copyOf_1904c_3 : decode cJ7_copyOf_1904c 3 = .ok (.invokevirtual 86, 3) := by decide +kernel
theorem dJ7_copyOf_1904c_6 : decode cJ7_copyOf_1904c 6 = .ok (.invokestatic 300, 3) := by decide +kernel
theorem dJ7_copyOf_1904c_9 : decode cJ7_copyOf_1904c 9 = .ok (.areturn, 1) := by decide +kernel
theorem dJ7_copyOf_6403c_0 : decode cJ7_copyOf_6403c 0 = .ok (.aload_n 2, 1) := by decide +kernel
theorem dJ7_copyOf_6403c_1 : decode cJ7_copyOf_6403c 1 = .ok (.ldc 110, 2) := by decide +kernel
theorem dJ7_copyOf_6403c_3 : decode cJ7_copyOf_6403c 3 = .ok (.if_acmp .ne 10, 3) := by decide +kernel
theorem dJ7_copyOf_6403c_6 : decode cJ7_copyOf_6403c 6 = .ok (.iload_n 1, 1) := by decide +kernel
theorem dJ7_copyOf_6403c_7 : decode cJ7_copyOf_6403c 7 = .ok (.anewarray 2, 3) := by decide +kernel
theorem dJ7_copyOf_6403c_10 : decode cJ7_copyOf_6403c 10 = .ok (.goto 14, 3) := by decide +kernel
theorem dJ7_copyOf_6403c_13 : decode cJ7_copyOf_6403c 13 = .ok (.aload_n 2, 1) := by decide +kernel
theorem dJ7_copyOf_6403c_14 : decode cJ7_copyOf_6403c 14 = .ok (.invokevirtual 90, 3) := by decide +kernel
theorem dJ7_copyOf_6403c_17 : decode cJ7_copyOf_6403c 17 = .ok (.iload_n 1, 1) := by decide +kernel
theorem dJ7_copyOf_6403c_18 : decode cJ7_copyOf_6403c 18 = .ok (.invokestatic 95, 3) := by decide +kernel
theorem dJ7_copyOf_6403c_21 : decode cJ7_copyOf_6403c 21 = .ok (.checkcast 110, 3) := by decide +kernel
theorem dJ7_copyOf_6403c_24 : decode cJ7_copyOf_6403c 24 = .ok (.astore_n 3, 1) := by decide +kernel
theorem dJ7_copyOf_6403c_25 : decode cJ7_copyOf_6403c 25 = .ok (.aload_n 0, 1) := by decide +kernel
theorem dJ7_copyOf_6403c_26 : decode cJ7_copyOf_6403c 26 = .ok (.iconst 0, 1) := by decide +kernel
theorem dJ7_copyOf_6403c_27 : decode cJ7_copyOf_6403c 27 = .ok (.aload_n 3, 1) := by decide +kernel
theorem dJ7_copyOf_6403c_28 : decode cJ7_copyOf_6403c 28 = .ok (.iconst 0, 1) := by decide +kernel
theorem dJ7_copyOf_6403c_29 : decode cJ7_copyOf_6403c 29 = .ok (.aload_n 0, 1) := by decide +kernel
theorem dJ7_copyOf_6403c_30 : decode cJ7_copyOf_6403c 30 = .ok (.arraylength, 1) := by decide +kernel
theorem dJ7_copyOf_6403c_31 : decode cJ7_copyOf_6403c 31 = .ok (.iload_n 1, 1) := by decide +kernel
theorem dJ7_copyOf_6403c_32 : decode cJ7_copyOf_6403c 32 = .ok (.invokestatic 304, 3) := by decide +kernel
theorem dJ7_copyOf_6403c_35 : decode cJ7_copyOf_6403c 35 = .ok (.invokestatic 150, 3) := by decide +kernel
theorem dJ7_copyOf_6403c_38 : decode cJ7_copyOf_6403c 38 = .ok (.aload_n 3, 1) := by decide +kernel
theorem dJ7_copyOf_6403c_39 : decode cJ7_copyOf_6403c 39 = .ok (.areturn, 1) := by decide +kernel
theorem dJ15_checkIndex_7cf53_0 : decode cJ15_checkIndex_7cf53 0 = .ok (.iload_n 0, 1) := by decide +kernel
theorem dJ15_checkIndex_7cf53_1 : decode cJ15_checkIndex_7cf53 1 = .ok (.iload_n 1, 1) := by decide +kernel
theorem dJ15_checkIndex_7cf53_2 : decode cJ15_checkIndex_7cf53 2 = .ok (.aconst_null, 1) := by decide +kernel
theorem dJ15_checkIndex_7cf53_3 : decode cJ15_checkIndex_7cf53 3 = .ok (.invokestatic 105, 3) := by decide +kernel
theorem dJ15_checkIndex_7cf53_6 : decode cJ15_checkIndex_7cf53 6 = .ok (.ireturn, 1) := by decide +kernel
theorem dJ8_newLength_cabcc_0 : decode cJ8_newLength_cabcc 0 = .ok (.iload_n 0, 1) := by decide +kernel
theorem dJ8_newLength_cabcc_1 : decode cJ8_newLength_cabcc 1 = .ok (.iload_n 1, 1) := by decide +kernel
theorem dJ8_newLength_cabcc_2 : decode cJ8_newLength_cabcc 2 = .ok (.iload_n 2, 1) := by decide +kernel
theorem dJ8_newLength_cabcc_3 : decode cJ8_newLength_cabcc 3 = .ok (.invokestatic 194, 3) := by decide +kernel
theorem dJ8_newLength_cabcc_6 : decode cJ8_newLength_cabcc 6 = .ok (.iadd, 1) := by decide +kernel
theorem dJ8_newLength_cabcc_7 : decode cJ8_newLength_cabcc 7 = .ok (.istore_n 3, 1) := by decide +kernel
theorem dJ8_newLength_cabcc_8 : decode cJ8_newLength_cabcc 8 = .ok (.iconst 0, 1) := by decide +kernel
theorem dJ8_newLength_cabcc_9 : decode cJ8_newLength_cabcc 9 = .ok (.iload_n 3, 1) := by decide +kernel
theorem dJ8_newLength_cabcc_10 : decode cJ8_newLength_cabcc 10 = .ok (.if_icmp .ge 11, 3) := by decide +kernel
theorem dJ8_newLength_cabcc_13 : decode cJ8_newLength_cabcc 13 = .ok (.iload_n 3, 1) := by decide +kernel
theorem dJ8_newLength_cabcc_14 : decode cJ8_newLength_cabcc 14 = .ok (.ldc 200, 2) := by decide +kernel
theorem dJ8_newLength_cabcc_16 : decode cJ8_newLength_cabcc 16 = .ok (.if_icmp .gt 5, 3) := by decide +kernel
theorem dJ8_newLength_cabcc_19 : decode cJ8_newLength_cabcc 19 = .ok (.iload_n 3, 1) := by decide +kernel
theorem dJ8_newLength_cabcc_20 : decode cJ8_newLength_cabcc 20 = .ok (.ireturn, 1) := by decide +kernel
theorem dJ8_newLength_cabcc_21 : decode cJ8_newLength_cabcc 21 = .ok (.iload_n 0, 1) := by decide +kernel
theorem dJ8_newLength_cabcc_22 : decode cJ8_newLength_cabcc 22 = .ok (.iload_n 1, 1) := by decide +kernel
theorem dJ8_newLength_cabcc_23 : decode cJ8_newLength_cabcc 23 = .ok (.invokestatic 201, 3) := by decide +kernel
theorem dJ8_newLength_cabcc_26 : decode cJ8_newLength_cabcc 26 = .ok (.ireturn, 1) := by decide +kernel
theorem dJ8_hugeLength_7cf53_0 : decode cJ8_hugeLength_7cf53 0 = .ok (.iload_n 0, 1) := by decide +kernel
theorem dJ8_hugeLength_7cf53_1 : decode cJ8_hugeLength_7cf53 1 = .ok (.iload_n 1, 1) := by decide +kernel
theorem dJ8_hugeLength_7cf53_2 : decode cJ8_hugeLength_7cf53 2 = .ok (.iadd, 1) := by decide +kernel
theorem dJ8_hugeLength_7cf53_3 : decode cJ8_hugeLength_7cf53 3 = .ok (.istore_n 2, 1) := by decide +kernel
theorem dJ8_hugeLength_7cf53_4 : decode cJ8_hugeLength_7cf53 4 = .ok (.iload_n 2, 1) := by decide +kernel
theorem dJ8_hugeLength_7cf53_5 : decode cJ8_hugeLength_7cf53 5 = .ok (.ifCond .ge 44, 3) := by decide +kernel
theorem dJ8_hugeLength_7cf53_8 : decode cJ8_hugeLength_7cf53 8 = .ok (.new 204, 3) := by decide +kernel
theorem dJ8_hugeLength_7cf53_11 : decode cJ8_hugeLength_7cf53 11 = .ok (.dup, 1) := by decide +kernel
theorem dJ8_hugeLength_7cf53_12 : decode cJ8_hugeLength_7cf53 12 = .ok (.new 89, 3) := by decide +kernel
theorem dJ8_hugeLength_7cf53_15 : decode cJ8_hugeLength_7cf53 15 = .ok (.dup, 1) := by decide +kernel
theorem dJ8_hugeLength_7cf53_16 : decode cJ8_hugeLength_7cf53 16 = .ok (.invokespecial 91, 3) := by decide +kernel
theorem dJ8_hugeLength_7cf53_19 : decode cJ8_hugeLength_7cf53 19 = .ok (.ldc 206, 2) := by decide +kernel
theorem dJ8_hugeLength_7cf53_21 : decode cJ8_hugeLength_7cf53 21 = .ok (.invokevirtual 94, 3) := by decide +kernel
theorem dJ8_hugeLength_7cf53_24 : decode cJ8_hugeLength_7cf53 24 = .ok (.iload_n 0, 1) := by decide +kernel
theorem dJ8_hugeLength_7cf53_25 : decode cJ8_hugeLength_7cf53 25 = .ok (.invokevirtual 98, 3) := by decide +kernel
theorem dJ8_hugeLength_7cf53_28 : decode cJ8_hugeLength_7cf53 28 = .ok (.ldc 208, 2) := by decide +kernel
theorem dJ8_hugeLength_7cf53_30 : decode cJ8_hugeLength_7cf53 30 = .ok (.invokevirtual 94, 3) := by decide +kernel
theorem dJ8_hugeLength_7cf53_33 : decode cJ8_hugeLength_7cf53 33 = .ok (.iload_n 1, 1) := by decide +kernel
theorem dJ8_hugeLength_7cf53_34 : decode cJ8_hugeLength_7cf53 34 = .ok (.invokevirtual 98, 3) := by decide +kernel
theorem dJ8_hugeLength_7cf53_37 : decode cJ8_hugeLength_7cf53 37 = .ok (.ldc 210, 2) := by decide +kernel
theorem dJ8_hugeLength_7cf53_39 : decode cJ8_hugeLength_7cf53 39 = .ok (.invokevirtual 94, 3) := by decide +kernel
theorem dJ8_hugeLength_7cf53_42 : decode cJ8_hugeLength_7cf53 42 = .ok (.invokevirtual 101, 3) := by decide +kernel
theorem dJ8_hugeLength_7cf53_45 : decode cJ8_hugeLength_7cf53 45 = .ok (.invokespecial 212, 3) := by decide +kernel
theorem dJ8_hugeLength_7cf53_48 : decode cJ8_hugeLength_7cf53 48 = .ok (.athrow, 1) := by decide +kernel
theorem dJ8_hugeLength_7cf53_49 : decode cJ8_hugeLength_7cf53 49 = .ok (.iload_n 2, 1) := by decide +kernel
theorem dJ8_hugeLength_7cf53_50 : decode cJ8_hugeLength_7cf53 50 = .ok (.ldc 200, 2) := by decide +kernel
theorem dJ8_hugeLength_7cf53_52 : decode cJ8_hugeLength_7cf53 52 = .ok (.if_icmp .gt 6, 3) := by decide +kernel
theorem dJ8_hugeLength_7cf53_55 : decode cJ8_hugeLength_7cf53 55 = .ok (.ldc 200, 2) := by decide +kernel
theorem dJ8_hugeLength_7cf53_57 : decode cJ8_hugeLength_7cf53 57 = .ok (.ireturn, 1) := by decide +kernel
theorem dJ8_hugeLength_7cf53_58 : decode cJ8_hugeLength_7cf53 58 = .ok (.iload_n 2, 1) := by decide +kernel
theorem dJ8_hugeLength_7cf53_59 : decode cJ8_hugeLength_7cf53 59 = .ok (.ireturn, 1) := by decide +kernel
theorem dJ3_checkIndex_8e157_0 : decode cJ3_checkIndex_8e157 0 = .ok (.iload_n 0, 1) := by decide +kernel
theorem dJ3_checkIndex_8e157_1 : decode cJ3_checkIndex_8e157 1 = .ok (.ifCond .lt 8, 3) := by decide +kernel
theorem dJ3_checkIndex_8e157_4 : decode cJ3_checkIndex_8e157 4 = .ok (.iload_n 0, 1) := by decide +kernel
theorem dJ3_checkIndex_8e157_5 : decode cJ3_checkIndex_8e157 5 = .ok (.iload_n 1, 1) := by decide +kernel
theorem dJ3_checkIndex_8e157_6 : decode cJ3_checkIndex_8e157 6 = .ok (.if_icmp .lt 10, 3) := by decide +kernel
theorem dJ3_checkIndex_8e157_9 : decode cJ3_checkIndex_8e157 9 = .ok (.aload_n 2, 1) := by decide +kernel
theorem dJ3_checkIndex_8e157_10 : decode cJ3_checkIndex_8e157 10 = .ok (.iload_n 0, 1) := by decide +kernel
theorem dJ3_checkIndex_8e157_11 : decode cJ3_checkIndex_8e157 11 = .ok (.iload_n 1, 1) := by decide +kernel
theorem dJ3_checkIndex_8e157_12 : decode cJ3_checkIndex_8e157 12 = .ok (.invokestatic 95, 3) := by decide +kernel
theorem dJ3_checkIndex_8e157_15 : decode cJ3_checkIndex_8e157 15 = .ok (.athrow, 1) := by decide +kernel
theorem dJ3_checkIndex_8e157_16 : decode cJ3_checkIndex_8e157 16 = .ok (.iload_n 0, 1) := by decide +kernel
theorem dJ3_checkIndex_8e157_17 : decode cJ3_checkIndex_8e157 17 = .ok (.ireturn, 1) := by decide +kernel
theorem dL_cell_0 : decode cL_cell 0 = .ok (.iload_n 1, 1) := by decide +kernel
theorem dL_cell_1 : decode cL_cell 1 = .ok (.aload_n 0, 1) := by decide +kernel
theorem dL_cell_2 : decode cL_cell 2 = .ok (.arraylength, 1) := by decide +kernel
theorem dL_cell_3 : decode cL_cell 3 = .ok (.if_icmp .ge 9, 3) := by decide +kernel
theorem dL_cell_6 : decode cL_cell 6 = .ok (.aload_n 0, 1) := by decide +kernel
theorem dL_cell_7 : decode cL_cell 7 = .ok (.iload_n 1, 1) := by decide +kernel
theorem dL_cell_8 : decode cL_cell 8 = .ok (.iaload, 1) := by decide +kernel
theorem dL_cell_9 : decode cL_cell 9 = .ok (.goto 11, 3) := by decide +kernel
theorem dL_cell_12 : decode cL_cell 12 = .ok (.sipush 7919, 3) := by decide +kernel
theorem dL_cell_15 : decode cL_cell 15 = .ok (.iload_n 1, 1) := by decide +kernel
theorem dL_cell_16 : decode cL_cell 16 = .ok (.imul, 1) := by decide +kernel
theorem dL_cell_17 : decode cL_cell 17 = .ok (.bipush 12, 2) := by decide +kernel
theorem dL_cell_19 : decode cL_cell 19 = .ok (.iadd, 1) := by decide +kernel
theorem dL_cell_20 : decode cL_cell 20 = .ok (.ireturn, 1) := by decide +kernel
theorem dL_some_0 : decode cL_some 0 = .ok (.aload_n 0, 1) := by decide +kernel
theorem dL_some_1 : decode cL_some 1 = .ok (.iload_n 1, 1) := by decide +kernel
theorem dL_some_2 : decode cL_some 2 = .ok (.invokestatic 7, 3) := by decide +kernel
theorem dL_some_5 : decode cL_some 5 = .ok (.iconst 3, 1) := by decide +kernel
theorem dL_some_6 : decode cL_some 6 = .ok (.iushr, 1) := by decide +kernel
theorem dL_some_7 : decode cL_some 7 = .ok (.iload_n 2, 1) := by decide +kernel
theorem dL_some_8 : decode cL_some 8 = .ok (.irem, 1) := by decide +kernel
theorem dL_some_9 : decode cL_some 9 = .ok (.ireturn, 1) := by decide +kernel
theorem dL_openSession_0 : decode cL_openSession 0 = .ok (.aload_n 0, 1) := by decide +kernel
theorem dL_openSession_1 : decode cL_openSession 1 = .ok (.invokevirtual 13, 3) := by decide +kernel
theorem dL_openSession_4 : decode cL_openSession 4 = .ok (.ireturn, 1) := by decide +kernel
theorem dL_openSession_5 : decode cL_openSession 5 = .ok (.astore_n 1, 1) := by decide +kernel
theorem dL_openSession_6 : decode cL_openSession 6 = .ok (.ldc 21, 2) := by decide +kernel
theorem dL_openSession_8 : decode cL_openSession 8 = .ok (.ireturn, 1) := by decide +kernel
theorem dL_openWindow_0 : decode cL_openWindow 0 = .ok (.aload_n 0, 1) := by decide +kernel
theorem dL_openWindow_1 : decode cL_openWindow 1 = .ok (.iload_n 1, 1) := by decide +kernel
theorem dL_openWindow_2 : decode cL_openWindow 2 = .ok (.iload_n 2, 1) := by decide +kernel
theorem dL_openWindow_3 : decode cL_openWindow 3 = .ok (.iload_n 3, 1) := by decide +kernel
theorem dL_openWindow_4 : decode cL_openWindow 4 = .ok (.iload 4, 2) := by decide +kernel
theorem dL_openWindow_6 : decode cL_openWindow 6 = .ok (.iload 5, 2) := by decide +kernel
theorem dL_openWindow_8 : decode cL_openWindow 8 = .ok (.invokevirtual 22, 3) := by decide +kernel
theorem dL_openWindow_11 : decode cL_openWindow 11 = .ok (.ireturn, 1) := by decide +kernel
theorem dL_openWindow_12 : decode cL_openWindow 12 = .ok (.astore 6, 2) := by decide +kernel
theorem dL_openWindow_14 : decode cL_openWindow 14 = .ok (.ldc 28, 2) := by decide +kernel
theorem dL_openWindow_16 : decode cL_openWindow 16 = .ok (.ireturn, 1) := by decide +kernel
theorem dL_openWindow_17 : decode cL_openWindow 17 = .ok (.astore 6, 2) := by decide +kernel
theorem dL_openWindow_19 : decode cL_openWindow 19 = .ok (.ldc 31, 2) := by decide +kernel
theorem dL_openWindow_21 : decode cL_openWindow 21 = .ok (.ireturn, 1) := by decide +kernel
theorem dL_openWindow_22 : decode cL_openWindow 22 = .ok (.astore 6, 2) := by decide +kernel
theorem dL_openWindow_24 : decode cL_openWindow 24 = .ok (.ldc 21, 2) := by decide +kernel
theorem dL_openWindow_26 : decode cL_openWindow 26 = .ok (.ireturn, 1) := by decide +kernel
theorem dL_moveWindow_0 : decode cL_moveWindow 0 = .ok (.aload_n 0, 1) := by decide +kernel
theorem dL_moveWindow_1 : decode cL_moveWindow 1 = .ok (.iload_n 1, 1) := by decide +kernel
theorem dL_moveWindow_2 : decode cL_moveWindow 2 = .ok (.iload_n 2, 1) := by decide +kernel
theorem dL_moveWindow_3 : decode cL_moveWindow 3 = .ok (.iload_n 3, 1) := by decide +kernel
theorem dL_moveWindow_4 : decode cL_moveWindow 4 = .ok (.iload 4, 2) := by decide +kernel
theorem dL_moveWindow_6 : decode cL_moveWindow 6 = .ok (.invokevirtual 32, 3) := by decide +kernel
theorem dL_moveWindow_9 : decode cL_moveWindow 9 = .ok (.ireturn, 1) := by decide +kernel
theorem dL_moveWindow_10 : decode cL_moveWindow 10 = .ok (.astore 5, 2) := by decide +kernel
theorem dL_moveWindow_12 : decode cL_moveWindow 12 = .ok (.ldc 28, 2) := by decide +kernel
theorem dL_moveWindow_14 : decode cL_moveWindow 14 = .ok (.ireturn, 1) := by decide +kernel
theorem dL_moveWindow_15 : decode cL_moveWindow 15 = .ok (.astore 5, 2) := by decide +kernel
theorem dL_moveWindow_17 : decode cL_moveWindow 17 = .ok (.ldc 31, 2) := by decide +kernel
theorem dL_moveWindow_19 : decode cL_moveWindow 19 = .ok (.ireturn, 1) := by decide +kernel
theorem dL_draw_0 : decode cL_draw 0 = .ok (.aload_n 0, 1) := by decide +kernel
theorem dL_draw_1 : decode cL_draw 1 = .ok (.iload_n 1, 1) := by decide +kernel
theorem dL_draw_2 : decode cL_draw 2 = .ok (.iload_n 2, 1) := by decide +kernel
theorem dL_draw_3 : decode cL_draw 3 = .ok (.iload_n 3, 1) := by decide +kernel
theorem dL_draw_4 : decode cL_draw 4 = .ok (.iload 4, 2) := by decide +kernel
theorem dL_draw_6 : decode cL_draw 6 = .ok (.iload 5, 2) := by decide +kernel
theorem dL_draw_8 : decode cL_draw 8 = .ok (.iload 6, 2) := by decide +kernel
theorem dL_draw_10 : decode cL_draw 10 = .ok (.iload 7, 2) := by decide +kernel
theorem dL_draw_12 : decode cL_draw 12 = .ok (.invokevirtual 36, 3) := by decide +kernel
theorem dL_draw_15 : decode cL_draw 15 = .ok (.ireturn, 1) := by decide +kernel
theorem dL_draw_16 : decode cL_draw 16 = .ok (.astore 8, 2) := by decide +kernel
theorem dL_draw_18 : decode cL_draw 18 = .ok (.ldc 28, 2) := by decide +kernel
theorem dL_draw_20 : decode cL_draw 20 = .ok (.ireturn, 1) := by decide +kernel
theorem dL_draw_21 : decode cL_draw 21 = .ok (.astore 8, 2) := by decide +kernel
theorem dL_draw_23 : decode cL_draw 23 = .ok (.ldc 31, 2) := by decide +kernel
theorem dL_draw_25 : decode cL_draw 25 = .ok (.ireturn, 1) := by decide +kernel
theorem dL_screen_0 : decode cL_screen 0 = .ok (.aload_n 0, 1) := by decide +kernel
theorem dL_screen_1 : decode cL_screen 1 = .ok (.iload_n 1, 1) := by decide +kernel
theorem dL_screen_2 : decode cL_screen 2 = .ok (.iload_n 2, 1) := by decide +kernel
theorem dL_screen_3 : decode cL_screen 3 = .ok (.iload_n 3, 1) := by decide +kernel
theorem dL_screen_4 : decode cL_screen 4 = .ok (.invokevirtual 40, 3) := by decide +kernel
theorem dL_screen_7 : decode cL_screen 7 = .ok (.ireturn, 1) := by decide +kernel
theorem dL_screen_8 : decode cL_screen 8 = .ok (.astore 4, 2) := by decide +kernel
theorem dL_screen_10 : decode cL_screen 10 = .ok (.ldc 28, 2) := by decide +kernel
theorem dL_screen_12 : decode cL_screen 12 = .ok (.ireturn, 1) := by decide +kernel
theorem dL_join_0 : decode cL_join 0 = .ok (.aload_n 0, 1) := by decide +kernel
theorem dL_join_1 : decode cL_join 1 = .ok (.iload_n 1, 1) := by decide +kernel
theorem dL_join_2 : decode cL_join 2 = .ok (.iload_n 2, 1) := by decide +kernel
theorem dL_join_3 : decode cL_join 3 = .ok (.invokevirtual 44, 3) := by decide +kernel
theorem dL_join_6 : decode cL_join 6 = .ok (.ireturn, 1) := by decide +kernel
theorem dL_join_7 : decode cL_join 7 = .ok (.astore_n 3, 1) := by decide +kernel
theorem dL_join_8 : decode cL_join 8 = .ok (.ldc 28, 2) := by decide +kernel
theorem dL_join_10 : decode cL_join 10 = .ok (.ireturn, 1) := by decide +kernel
theorem dL_join_11 : decode cL_join 11 = .ok (.astore_n 3, 1) := by decide +kernel
theorem dL_join_12 : decode cL_join 12 = .ok (.ldc 31, 2) := by decide +kernel
theorem dL_join_14 : decode cL_join 14 = .ok (.ireturn, 1) := by decide +kernel
theorem dL_join_15 : decode cL_join 15 = .ok (.astore_n 3, 1) := by decide +kernel
theorem dL_join_16 : decode cL_join 16 = .ok (.ldc 21, 2) := by decide +kernel
theorem dL_join_18 : decode cL_join 18 = .ok (.ireturn, 1) := by decide +kernel
theorem dL_bid_0 : decode cL_bid 0 = .ok (.aload_n 0, 1) := by decide +kernel
theorem dL_bid_1 : decode cL_bid 1 = .ok (.iload_n 1, 1) := by decide +kernel
theorem dL_bid_2 : decode cL_bid 2 = .ok (.iload_n 2, 1) := by decide +kernel
theorem dL_bid_3 : decode cL_bid 3 = .ok (.invokevirtual 48, 3) := by decide +kernel
theorem dL_bid_6 : decode cL_bid 6 = .ok (.ireturn, 1) := by decide +kernel
theorem dL_bid_7 : decode cL_bid 7 = .ok (.astore_n 3, 1) := by decide +kernel
theorem dL_bid_8 : decode cL_bid 8 = .ok (.ldc 28, 2) := by decide +kernel
theorem dL_bid_10 : decode cL_bid 10 = .ok (.ireturn, 1) := by decide +kernel
theorem dL_bid_11 : decode cL_bid 11 = .ok (.astore_n 3, 1) := by decide +kernel
theorem dL_bid_12 : decode cL_bid 12 = .ok (.ldc 31, 2) := by decide +kernel
theorem dL_bid_14 : decode cL_bid 14 = .ok (.ireturn, 1) := by decide +kernel
theorem dL_money_0 : decode cL_money 0 = .ok (.aload_n 0, 1) := by decide +kernel
theorem dL_money_1 : decode cL_money 1 = .ok (.iload_n 1, 1) := by decide +kernel
theorem dL_money_2 : decode cL_money 2 = .ok (.invokevirtual 51, 3) := by decide +kernel
theorem dL_money_5 : decode cL_money 5 = .ok (.ireturn, 1) := by decide +kernel
theorem dL_money_6 : decode cL_money 6 = .ok (.astore_n 2, 1) := by decide +kernel
theorem dL_money_7 : decode cL_money 7 = .ok (.ldc 28, 2) := by decide +kernel
theorem dL_money_9 : decode cL_money 9 = .ok (.ireturn, 1) := by decide +kernel
theorem dL_picture_0 : decode cL_picture 0 = .ok (.aload_n 0, 1) := by decide +kernel
theorem dL_picture_1 : decode cL_picture 1 = .ok (.iload_n 1, 1) := by decide +kernel
theorem dL_picture_2 : decode cL_picture 2 = .ok (.iload_n 2, 1) := by decide +kernel
theorem dL_picture_3 : decode cL_picture 3 = .ok (.iload_n 3, 1) := by decide +kernel
theorem dL_picture_4 : decode cL_picture 4 = .ok (.invokevirtual 55, 3) := by decide +kernel
theorem dL_picture_7 : decode cL_picture 7 = .ok (.ireturn, 1) := by decide +kernel
theorem dL_picture_8 : decode cL_picture 8 = .ok (.astore 4, 2) := by decide +kernel
theorem dL_picture_10 : decode cL_picture 10 = .ok (.ldc 28, 2) := by decide +kernel
theorem dL_picture_12 : decode cL_picture 12 = .ok (.ireturn, 1) := by decide +kernel
theorem dL_seen_0 : decode cL_seen 0 = .ok (.aload_n 0, 1) := by decide +kernel
theorem dL_seen_1 : decode cL_seen 1 = .ok (.iload_n 1, 1) := by decide +kernel
theorem dL_seen_2 : decode cL_seen 2 = .ok (.iload_n 2, 1) := by decide +kernel
theorem dL_seen_3 : decode cL_seen 3 = .ok (.iload_n 3, 1) := by decide +kernel
theorem dL_seen_4 : decode cL_seen 4 = .ok (.invokevirtual 58, 3) := by decide +kernel
theorem dL_seen_7 : decode cL_seen 7 = .ok (.ireturn, 1) := by decide +kernel
theorem dL_seen_8 : decode cL_seen 8 = .ok (.astore 4, 2) := by decide +kernel
theorem dL_seen_10 : decode cL_seen 10 = .ok (.ldc 28, 2) := by decide +kernel
theorem dL_seen_12 : decode cL_seen 12 = .ok (.ireturn, 1) := by decide +kernel
theorem dL_behind_0 : decode cL_behind 0 = .ok (.aload_n 0, 1) := by decide +kernel
theorem dL_behind_1 : decode cL_behind 1 = .ok (.iload_n 1, 1) := by decide +kernel
theorem dL_behind_2 : decode cL_behind 2 = .ok (.invokevirtual 61, 3) := by decide +kernel
theorem dL_behind_5 : decode cL_behind 5 = .ok (.ireturn, 1) := by decide +kernel
theorem dL_behind_6 : decode cL_behind 6 = .ok (.astore_n 2, 1) := by decide +kernel
theorem dL_behind_7 : decode cL_behind 7 = .ok (.ldc 28, 2) := by decide +kernel
theorem dL_behind_9 : decode cL_behind 9 = .ok (.ireturn, 1) := by decide +kernel
theorem dL_next_0 : decode cL_next 0 = .ok (.aload_n 0, 1) := by decide +kernel
theorem dL_next_1 : decode cL_next 1 = .ok (.iload_n 1, 1) := by decide +kernel
theorem dL_next_2 : decode cL_next 2 = .ok (.invokevirtual 64, 3) := by decide +kernel
theorem dL_next_5 : decode cL_next 5 = .ok (.ireturn, 1) := by decide +kernel
theorem dL_next_6 : decode cL_next 6 = .ok (.astore_n 2, 1) := by decide +kernel
theorem dL_next_7 : decode cL_next 7 = .ok (.ldc 28, 2) := by decide +kernel
theorem dL_next_9 : decode cL_next 9 = .ok (.ireturn, 1) := by decide +kernel
theorem dL_next_10 : decode cL_next 10 = .ok (.astore_n 2, 1) := by decide +kernel
theorem dL_next_11 : decode cL_next 11 = .ok (.ldc 70, 2) := by decide +kernel
theorem dL_next_13 : decode cL_next 13 = .ok (.ireturn, 1) := by decide +kernel
theorem dL_nextCost_0 : decode cL_nextCost 0 = .ok (.aload_n 0, 1) := by decide +kernel
theorem dL_nextCost_1 : decode cL_nextCost 1 = .ok (.iload_n 1, 1) := by decide +kernel
theorem dL_nextCost_2 : decode cL_nextCost 2 = .ok (.invokevirtual 71, 3) := by decide +kernel
theorem dL_nextCost_5 : decode cL_nextCost 5 = .ok (.ireturn, 1) := by decide +kernel
theorem dL_nextCost_6 : decode cL_nextCost 6 = .ok (.astore_n 2, 1) := by decide +kernel
theorem dL_nextCost_7 : decode cL_nextCost 7 = .ok (.ldc 28, 2) := by decide +kernel
theorem dL_nextCost_9 : decode cL_nextCost 9 = .ok (.ireturn, 1) := by decide +kernel
theorem dL_nextCost_10 : decode cL_nextCost 10 = .ok (.astore_n 2, 1) := by decide +kernel
theorem dL_nextCost_11 : decode cL_nextCost 11 = .ok (.ldc 70, 2) := by decide +kernel
theorem dL_nextCost_13 : decode cL_nextCost 13 = .ok (.ireturn, 1) := by decide +kernel
theorem dL_tick_0 : decode cL_tick 0 = .ok (.aload_n 0, 1) := by decide +kernel
theorem dL_tick_1 : decode cL_tick 1 = .ok (.iload_n 1, 1) := by decide +kernel
theorem dL_tick_2 : decode cL_tick 2 = .ok (.invokevirtual 74, 3) := by decide +kernel
theorem dL_tick_5 : decode cL_tick 5 = .ok (.ireturn, 1) := by decide +kernel
theorem dL_tick_6 : decode cL_tick 6 = .ok (.astore_n 2, 1) := by decide +kernel
theorem dL_tick_7 : decode cL_tick 7 = .ok (.ldc 31, 2) := by decide +kernel
theorem dL_tick_9 : decode cL_tick 9 = .ok (.ireturn, 1) := by decide +kernel
theorem dL_type_0 : decode cL_type 0 = .ok (.aload_n 0, 1) := by decide +kernel
theorem dL_type_1 : decode cL_type 1 = .ok (.iload_n 1, 1) := by decide +kernel
theorem dL_type_2 : decode cL_type 2 = .ok (.iload_n 2, 1) := by decide +kernel
theorem dL_type_3 : decode cL_type 3 = .ok (.invokevirtual 77, 3) := by decide +kernel
theorem dL_type_6 : decode cL_type 6 = .ok (.ireturn, 1) := by decide +kernel
theorem dL_type_7 : decode cL_type 7 = .ok (.astore_n 3, 1) := by decide +kernel
theorem dL_type_8 : decode cL_type 8 = .ok (.ldc 28, 2) := by decide +kernel
theorem dL_type_10 : decode cL_type 10 = .ok (.ireturn, 1) := by decide +kernel
theorem dL_type_11 : decode cL_type 11 = .ok (.astore_n 3, 1) := by decide +kernel
theorem dL_type_12 : decode cL_type 12 = .ok (.ldc 31, 2) := by decide +kernel
theorem dL_type_14 : decode cL_type 14 = .ok (.ireturn, 1) := by decide +kernel
theorem dL_type_15 : decode cL_type 15 = .ok (.astore_n 3, 1) := by decide +kernel
theorem dL_type_16 : decode cL_type 16 = .ok (.ldc 83, 2) := by decide +kernel
theorem dL_type_18 : decode cL_type 18 = .ok (.ireturn, 1) := by decide +kernel
theorem dL_type_19 : decode cL_type 19 = .ok (.astore_n 3, 1) := by decide +kernel
theorem dL_type_20 : decode cL_type 20 = .ok (.ldc 21, 2) := by decide +kernel
theorem dL_type_22 : decode cL_type 22 = .ok (.ireturn, 1) := by decide +kernel
theorem dL_guesses_0 : decode cL_guesses 0 = .ok (.aload_n 0, 1) := by decide +kernel
theorem dL_guesses_1 : decode cL_guesses 1 = .ok (.iload_n 1, 1) := by decide +kernel
theorem dL_guesses_2 : decode cL_guesses 2 = .ok (.invokevirtual 84, 3) := by decide +kernel
theorem dL_guesses_5 : decode cL_guesses 5 = .ok (.ireturn, 1) := by decide +kernel
theorem dL_guesses_6 : decode cL_guesses 6 = .ok (.astore_n 2, 1) := by decide +kernel
theorem dL_guesses_7 : decode cL_guesses 7 = .ok (.ldc 28, 2) := by decide +kernel
theorem dL_guesses_9 : decode cL_guesses 9 = .ok (.ireturn, 1) := by decide +kernel
theorem dL_copy_0 : decode cL_copy 0 = .ok (.aload_n 0, 1) := by decide +kernel
theorem dL_copy_1 : decode cL_copy 1 = .ok (.iload_n 1, 1) := by decide +kernel
theorem dL_copy_2 : decode cL_copy 2 = .ok (.iload_n 2, 1) := by decide +kernel
theorem dL_copy_3 : decode cL_copy 3 = .ok (.iload_n 3, 1) := by decide +kernel
theorem dL_copy_4 : decode cL_copy 4 = .ok (.invokevirtual 87, 3) := by decide +kernel
theorem dL_copy_7 : decode cL_copy 7 = .ok (.ireturn, 1) := by decide +kernel
theorem dL_copy_8 : decode cL_copy 8 = .ok (.astore 4, 2) := by decide +kernel
theorem dL_copy_10 : decode cL_copy 10 = .ok (.ldc 28, 2) := by decide +kernel
theorem dL_copy_12 : decode cL_copy 12 = .ok (.ireturn, 1) := by decide +kernel
theorem dL_copy_13 : decode cL_copy 13 = .ok (.astore 4, 2) := by decide +kernel
theorem dL_copy_15 : decode cL_copy 15 = .ok (.ldc 31, 2) := by decide +kernel
theorem dL_copy_17 : decode cL_copy 17 = .ok (.ireturn, 1) := by decide +kernel
theorem dL_paste_0 : decode cL_paste 0 = .ok (.aload_n 0, 1) := by decide +kernel
theorem dL_paste_1 : decode cL_paste 1 = .ok (.iload_n 1, 1) := by decide +kernel
theorem dL_paste_2 : decode cL_paste 2 = .ok (.iload_n 2, 1) := by decide +kernel
theorem dL_paste_3 : decode cL_paste 3 = .ok (.invokevirtual 90, 3) := by decide +kernel
theorem dL_paste_6 : decode cL_paste 6 = .ok (.ireturn, 1) := by decide +kernel
theorem dL_paste_7 : decode cL_paste 7 = .ok (.astore_n 3, 1) := by decide +kernel
theorem dL_paste_8 : decode cL_paste 8 = .ok (.ldc 28, 2) := by decide +kernel
theorem dL_paste_10 : decode cL_paste 10 = .ok (.ireturn, 1) := by decide +kernel
theorem dL_paste_11 : decode cL_paste 11 = .ok (.astore_n 3, 1) := by decide +kernel
theorem dL_paste_12 : decode cL_paste 12 = .ok (.ldc 70, 2) := by decide +kernel
theorem dL_paste_14 : decode cL_paste 14 = .ok (.ireturn, 1) := by decide +kernel
theorem dL_paste_15 : decode cL_paste 15 = .ok (.astore_n 3, 1) := by decide +kernel
theorem dL_paste_16 : decode cL_paste 16 = .ok (.ldc 83, 2) := by decide +kernel
theorem dL_paste_18 : decode cL_paste 18 = .ok (.ireturn, 1) := by decide +kernel
theorem dL_left_0 : decode cL_left 0 = .ok (.aload_n 0, 1) := by decide +kernel
theorem dL_left_1 : decode cL_left 1 = .ok (.iload_n 1, 1) := by decide +kernel
theorem dL_left_2 : decode cL_left 2 = .ok (.invokevirtual 93, 3) := by decide +kernel
theorem dL_left_5 : decode cL_left 5 = .ok (.ireturn, 1) := by decide +kernel
theorem dL_left_6 : decode cL_left 6 = .ok (.astore_n 2, 1) := by decide +kernel
theorem dL_left_7 : decode cL_left 7 = .ok (.ldc 28, 2) := by decide +kernel
theorem dL_left_9 : decode cL_left 9 = .ok (.ireturn, 1) := by decide +kernel
theorem dL_left_10 : decode cL_left 10 = .ok (.astore_n 2, 1) := by decide +kernel
theorem dL_left_11 : decode cL_left 11 = .ok (.ldc 21, 2) := by decide +kernel
theorem dL_left_13 : decode cL_left 13 = .ok (.ireturn, 1) := by decide +kernel
theorem dL_host_0 : decode cL_host 0 = .ok (.aload_n 0, 1) := by decide +kernel
theorem dL_host_1 : decode cL_host 1 = .ok (.iload_n 1, 1) := by decide +kernel
theorem dL_host_2 : decode cL_host 2 = .ok (.invokevirtual 96, 3) := by decide +kernel
theorem dL_host_5 : decode cL_host 5 = .ok (.ireturn, 1) := by decide +kernel
theorem dL_host_6 : decode cL_host 6 = .ok (.astore_n 2, 1) := by decide +kernel
theorem dL_host_7 : decode cL_host 7 = .ok (.ldc 28, 2) := by decide +kernel
theorem dL_host_9 : decode cL_host 9 = .ok (.ireturn, 1) := by decide +kernel
theorem dL_record_0 : decode cL_record 0 = .ok (.aload_n 0, 1) := by decide +kernel
theorem dL_record_1 : decode cL_record 1 = .ok (.iload_n 1, 1) := by decide +kernel
theorem dL_record_2 : decode cL_record 2 = .ok (.invokevirtual 99, 3) := by decide +kernel
theorem dL_record_5 : decode cL_record 5 = .ok (.ireturn, 1) := by decide +kernel
theorem dL_record_6 : decode cL_record 6 = .ok (.astore_n 2, 1) := by decide +kernel
theorem dL_record_7 : decode cL_record 7 = .ok (.ldc 28, 2) := by decide +kernel
theorem dL_record_9 : decode cL_record 9 = .ok (.ireturn, 1) := by decide +kernel
theorem dL_played_0 : decode cL_played 0 = .ok (.aload_n 0, 1) := by decide +kernel
theorem dL_played_1 : decode cL_played 1 = .ok (.iload_n 1, 1) := by decide +kernel
theorem dL_played_2 : decode cL_played 2 = .ok (.iload_n 2, 1) := by decide +kernel
theorem dL_played_3 : decode cL_played 3 = .ok (.iload_n 3, 1) := by decide +kernel
theorem dL_played_4 : decode cL_played 4 = .ok (.iload 4, 2) := by decide +kernel
theorem dL_played_6 : decode cL_played 6 = .ok (.invokevirtual 102, 3) := by decide +kernel
theorem dL_played_9 : decode cL_played 9 = .ok (.ireturn, 1) := by decide +kernel
theorem dL_played_10 : decode cL_played 10 = .ok (.astore 5, 2) := by decide +kernel
theorem dL_played_12 : decode cL_played 12 = .ok (.ldc 28, 2) := by decide +kernel
theorem dL_played_14 : decode cL_played 14 = .ok (.ireturn, 1) := by decide +kernel
theorem dL_played_15 : decode cL_played 15 = .ok (.astore 5, 2) := by decide +kernel
theorem dL_played_17 : decode cL_played 17 = .ok (.ldc 70, 2) := by decide +kernel
theorem dL_played_19 : decode cL_played 19 = .ok (.ireturn, 1) := by decide +kernel
theorem dL_noted_0 : decode cL_noted 0 = .ok (.aload_n 0, 1) := by decide +kernel
theorem dL_noted_1 : decode cL_noted 1 = .ok (.iload_n 1, 1) := by decide +kernel
theorem dL_noted_2 : decode cL_noted 2 = .ok (.invokevirtual 105, 3) := by decide +kernel
theorem dL_noted_5 : decode cL_noted 5 = .ok (.ireturn, 1) := by decide +kernel
theorem dL_noted_6 : decode cL_noted 6 = .ok (.astore_n 2, 1) := by decide +kernel
theorem dL_noted_7 : decode cL_noted 7 = .ok (.ldc 28, 2) := by decide +kernel
theorem dL_noted_9 : decode cL_noted 9 = .ok (.ireturn, 1) := by decide +kernel
theorem dL_noted_10 : decode cL_noted 10 = .ok (.astore_n 2, 1) := by decide +kernel
theorem dL_noted_11 : decode cL_noted 11 = .ok (.ldc 70, 2) := by decide +kernel
theorem dL_noted_13 : decode cL_noted 13 = .ok (.ireturn, 1) := by decide +kernel
theorem dL_is_0 : decode cL_is 0 = .ok (.iload_n 1, 1) := by decide +kernel
theorem dL_is_1 : decode cL_is 1 = .ok (.bipush 99, 2) := by decide +kernel
theorem dL_is_3 : decode cL_is 3 = .ok (.if_icmp .ne 15, 3) := by decide +kernel
theorem dL_is_6 : decode cL_is 6 = .ok (.aload_n 0, 1) := by decide +kernel
theorem dL_is_7 : decode cL_is 7 = .ok (.iload_n 2, 1) := by decide +kernel
theorem dL_is_8 : decode cL_is 8 = .ok (.iload_n 3, 1) := by decide +kernel
theorem dL_is_9 : decode cL_is 9 = .ok (.invokevirtual 108, 3) := by decide +kernel
theorem dL_is_12 : decode cL_is 12 = .ok (.ifCond .eq 109, 3) := by decide +kernel
theorem dL_is_15 : decode cL_is 15 = .ok (.goto 102, 3) := by decide +kernel
theorem dL_is_18 : decode cL_is 18 = .ok (.iload_n 1, 1) := by decide +kernel
theorem dL_is_19 : decode cL_is 19 = .ok (.bipush 114, 2) := by decide +kernel
theorem dL_is_21 : decode cL_is 21 = .ok (.if_icmp .ne 15, 3) := by decide +kernel
theorem dL_is_24 : decode cL_is 24 = .ok (.aload_n 0, 1) := by decide +kernel
theorem dL_is_25 : decode cL_is 25 = .ok (.iload_n 2, 1) := by decide +kernel
theorem dL_is_26 : decode cL_is 26 = .ok (.iload_n 3, 1) := by decide +kernel
theorem dL_is_27 : decode cL_is 27 = .ok (.invokevirtual 112, 3) := by decide +kernel
theorem dL_is_30 : decode cL_is 30 = .ok (.ifCond .eq 91, 3) := by decide +kernel
theorem dL_is_33 : decode cL_is 33 = .ok (.goto 84, 3) := by decide +kernel
theorem dL_is_36 : decode cL_is 36 = .ok (.iload_n 1, 1) := by decide +kernel
theorem dL_is_37 : decode cL_is 37 = .ok (.bipush 115, 2) := by decide +kernel
theorem dL_is_39 : decode cL_is 39 = .ok (.if_icmp .ne 17, 3) := by decide +kernel
theorem dL_is_42 : decode cL_is 42 = .ok (.aload_n 0, 1) := by decide +kernel
theorem dL_is_43 : decode cL_is 43 = .ok (.iload_n 2, 1) := by decide +kernel
theorem dL_is_44 : decode cL_is 44 = .ok (.iload_n 3, 1) := by decide +kernel
theorem dL_is_45 : decode cL_is 45 = .ok (.iload 5, 2) := by decide +kernel
theorem dL_is_47 : decode cL_is 47 = .ok (.invokevirtual 115, 3) := by decide +kernel
theorem dL_is_50 : decode cL_is 50 = .ok (.ifCond .eq 71, 3) := by decide +kernel
theorem dL_is_53 : decode cL_is 53 = .ok (.goto 64, 3) := by decide +kernel
theorem dL_is_56 : decode cL_is 56 = .ok (.iload_n 1, 1) := by decide +kernel
theorem dL_is_57 : decode cL_is 57 = .ok (.bipush 109, 2) := by decide +kernel
theorem dL_is_59 : decode cL_is 59 = .ok (.if_icmp .ne 28, 3) := by decide +kernel
theorem dL_is_62 : decode cL_is 62 = .ok (.aload_n 0, 1) := by decide +kernel
theorem dL_is_63 : decode cL_is 63 = .ok (.iload_n 2, 1) := by decide +kernel
theorem dL_is_64 : decode cL_is 64 = .ok (.iload_n 3, 1) := by decide +kernel
theorem dL_is_65 : decode cL_is 65 = .ok (.iload 5, 2) := by decide +kernel
theorem dL_is_67 : decode cL_is 67 = .ok (.iload 4, 2) := by decide +kernel
theorem dL_is_69 : decode cL_is 69 = .ok (.iconst 1, 1) := by decide +kernel
theorem dL_is_70 : decode cL_is 70 = .ok (.if_icmp .ne 7, 3) := by decide +kernel
theorem dL_is_73 : decode cL_is 73 = .ok (.iconst 1, 1) := by decide +kernel
theorem dL_is_74 : decode cL_is 74 = .ok (.goto 4, 3) := by decide +kernel
theorem dL_is_77 : decode cL_is 77 = .ok (.iconst 0, 1) := by decide +kernel
theorem dL_is_78 : decode cL_is 78 = .ok (.invokevirtual 119, 3) := by decide +kernel
theorem dL_is_81 : decode cL_is 81 = .ok (.ifCond .eq 40, 3) := by decide +kernel
theorem dL_is_84 : decode cL_is 84 = .ok (.goto 33, 3) := by decide +kernel
theorem dL_is_87 : decode cL_is 87 = .ok (.iload_n 1, 1) := by decide +kernel
theorem dL_is_88 : decode cL_is 88 = .ok (.bipush 97, 2) := by decide +kernel
theorem dL_is_90 : decode cL_is 90 = .ok (.if_icmp .ne 19, 3) := by decide +kernel
theorem dL_is_93 : decode cL_is 93 = .ok (.aload_n 0, 1) := by decide +kernel
theorem dL_is_94 : decode cL_is 94 = .ok (.iload_n 2, 1) := by decide +kernel
theorem dL_is_95 : decode cL_is 95 = .ok (.iload_n 3, 1) := by decide +kernel
theorem dL_is_96 : decode cL_is 96 = .ok (.iload 4, 2) := by decide +kernel
theorem dL_is_98 : decode cL_is 98 = .ok (.iload 5, 2) := by decide +kernel
theorem dL_is_100 : decode cL_is 100 = .ok (.invokevirtual 123, 3) := by decide +kernel
theorem dL_is_103 : decode cL_is 103 = .ok (.ifCond .eq 18, 3) := by decide +kernel
theorem dL_is_106 : decode cL_is 106 = .ok (.goto 11, 3) := by decide +kernel
theorem dL_is_109 : decode cL_is 109 = .ok (.aload_n 0, 1) := by decide +kernel
theorem dL_is_110 : decode cL_is 110 = .ok (.iload_n 2, 1) := by decide +kernel
theorem dL_is_111 : decode cL_is 111 = .ok (.invokevirtual 127, 3) := by decide +kernel
theorem dL_is_114 : decode cL_is 114 = .ok (.ifCond .eq 7, 3) := by decide +kernel
theorem dL_is_117 : decode cL_is 117 = .ok (.iconst 1, 1) := by decide +kernel
theorem dL_is_118 : decode cL_is 118 = .ok (.goto 4, 3) := by decide +kernel
theorem dL_is_121 : decode cL_is 121 = .ok (.iconst 0, 1) := by decide +kernel
theorem dL_is_122 : decode cL_is 122 = .ok (.ireturn, 1) := by decide +kernel
theorem dL_is_123 : decode cL_is 123 = .ok (.astore 6, 2) := by decide +kernel
theorem dL_is_125 : decode cL_is 125 = .ok (.ldc 28, 2) := by decide +kernel
theorem dL_is_127 : decode cL_is 127 = .ok (.ireturn, 1) := by decide +kernel
theorem dL_is_128 : decode cL_is 128 = .ok (.astore 6, 2) := by decide +kernel
theorem dL_is_130 : decode cL_is 130 = .ok (.ldc 31, 2) := by decide +kernel
theorem dL_is_132 : decode cL_is 132 = .ok (.ireturn, 1) := by decide +kernel
theorem dL_is_133 : decode cL_is 133 = .ok (.astore 6, 2) := by decide +kernel
theorem dL_is_135 : decode cL_is 135 = .ok (.ldc 21, 2) := by decide +kernel
theorem dL_is_137 : decode cL_is 137 = .ok (.ireturn, 1) := by decide +kernel
theorem dL_told_0 : decode cL_told 0 = .ok (.iconst 0, 1) := by decide +kernel
theorem dL_told_1 : decode cL_told 1 = .ok (.istore_n 3, 1) := by decide +kernel
theorem dL_told_2 : decode cL_told 2 = .ok (.aload_n 0, 1) := by decide +kernel
theorem dL_told_3 : decode cL_told 3 = .ok (.iload_n 1, 1) := by decide +kernel
theorem dL_told_4 : decode cL_told 4 = .ok (.invokestatic 131, 3) := by decide +kernel
theorem dL_told_7 : decode cL_told 7 = .ok (.istore 4, 2) := by decide +kernel
theorem dL_told_9 : decode cL_told 9 = .ok (.aload_n 0, 1) := by decide +kernel
theorem dL_told_10 : decode cL_told 10 = .ok (.iload_n 1, 1) := by decide +kernel
theorem dL_told_11 : decode cL_told 11 = .ok (.invokestatic 134, 3) := by decide +kernel
theorem dL_told_14 : decode cL_told 14 = .ok (.istore 5, 2) := by decide +kernel
theorem dL_told_16 : decode cL_told 16 = .ok (.iconst 0, 1) := by decide +kernel
theorem dL_told_17 : decode cL_told 17 = .ok (.istore 6, 2) := by decide +kernel
theorem dL_told_19 : decode cL_told 19 = .ok (.iload 6, 2) := by decide +kernel
theorem dL_told_21 : decode cL_told 21 = .ok (.bipush 96, 2) := by decide +kernel
theorem dL_told_23 : decode cL_told 23 = .ok (.if_icmp .ge 45, 3) := by decide +kernel
theorem dL_told_26 : decode cL_told 26 = .ok (.aload_n 0, 1) := by decide +kernel
theorem dL_told_27 : decode cL_told 27 = .ok (.iload_n 1, 1) := by decide +kernel
theorem dL_told_28 : decode cL_told 28 = .ok (.iload 6, 2) := by decide +kernel
theorem dL_told_30 : decode cL_told 30 = .ok (.bipush 12, 2) := by decide +kernel
theorem dL_told_32 : decode cL_told 32 = .ok (.irem, 1) := by decide +kernel
theorem dL_told_33 : decode cL_told 33 = .ok (.iload 6, 2) := by decide +kernel
theorem dL_told_35 : decode cL_told 35 = .ok (.bipush 12, 2) := by decide +kernel
theorem dL_told_37 : decode cL_told 37 = .ok (.idiv, 1) := by decide +kernel
theorem dL_told_38 : decode cL_told 38 = .ok (.invokestatic 136, 3) := by decide +kernel
theorem dL_told_41 : decode cL_told 41 = .ok (.aload_n 0, 1) := by decide +kernel
theorem dL_told_42 : decode cL_told 42 = .ok (.iload_n 2, 1) := by decide +kernel
theorem dL_told_43 : decode cL_told 43 = .ok (.iload 6, 2) := by decide +kernel
theorem dL_told_45 : decode cL_told 45 = .ok (.bipush 12, 2) := by decide +kernel
theorem dL_told_47 : decode cL_told 47 = .ok (.irem, 1) := by decide +kernel
theorem dL_told_48 : decode cL_told 48 = .ok (.iload 6, 2) := by decide +kernel
theorem dL_told_50 : decode cL_told 50 = .ok (.bipush 12, 2) := by decide +kernel
theorem dL_told_52 : decode cL_told 52 = .ok (.idiv, 1) := by decide +kernel
theorem dL_told_53 : decode cL_told 53 = .ok (.invokestatic 139, 3) := by decide +kernel
theorem dL_told_56 : decode cL_told 56 = .ok (.if_icmp .eq 6, 3) := by decide +kernel
theorem dL_told_59 : decode cL_told 59 = .ok (.iinc 3 1, 3) := by decide +kernel
theorem dL_told_62 : decode cL_told 62 = .ok (.iinc 6 1, 3) := by decide +kernel
theorem dL_told_65 : decode cL_told 65 = .ok (.goto (-46), 3) := by decide +kernel
theorem dL_told_68 : decode cL_told 68 = .ok (.aload_n 0, 1) := by decide +kernel
theorem dL_told_69 : decode cL_told 69 = .ok (.iload_n 1, 1) := by decide +kernel
theorem dL_told_70 : decode cL_told 70 = .ok (.invokestatic 141, 3) := by decide +kernel
theorem dL_told_73 : decode cL_told 73 = .ok (.iload_n 3, 1) := by decide +kernel
theorem dL_told_74 : decode cL_told 74 = .ok (.if_icmp .ne 69, 3) := by decide +kernel
theorem dL_told_77 : decode cL_told 77 = .ok (.iload 4, 2) := by decide +kernel
theorem dL_told_79 : decode cL_told 79 = .ok (.ldc 70, 2) := by decide +kernel
theorem dL_told_81 : decode cL_told 81 = .ok (.if_icmp .ne 7, 3) := by decide +kernel
theorem dL_told_84 : decode cL_told 84 = .ok (.iconst 1, 1) := by decide +kernel
theorem dL_told_85 : decode cL_told 85 = .ok (.goto 4, 3) := by decide +kernel
theorem dL_told_88 : decode cL_told 88 = .ok (.iconst 0, 1) := by decide +kernel
theorem dL_told_89 : decode cL_told 89 = .ok (.iload_n 3, 1) := by decide +kernel
theorem dL_told_90 : decode cL_told 90 = .ok (.ifCond .ne 7, 3) := by decide +kernel
theorem dL_told_93 : decode cL_told 93 = .ok (.iconst 1, 1) := by decide +kernel
theorem dL_told_94 : decode cL_told 94 = .ok (.goto 4, 3) := by decide +kernel
theorem dL_told_97 : decode cL_told 97 = .ok (.iconst 0, 1) := by decide +kernel
theorem dL_told_98 : decode cL_told 98 = .ok (.if_icmp .ne 45, 3) := by decide +kernel
theorem dL_told_101 : decode cL_told 101 = .ok (.iload 5, 2) := by decide +kernel
theorem dL_told_103 : decode cL_told 103 = .ok (.ldc 70, 2) := by decide +kernel
theorem dL_told_105 : decode cL_told 105 = .ok (.if_icmp .ne 7, 3) := by decide +kernel
theorem dL_told_108 : decode cL_told 108 = .ok (.iconst 1, 1) := by decide +kernel
theorem dL_told_109 : decode cL_told 109 = .ok (.goto 4, 3) := by decide +kernel
theorem dL_told_112 : decode cL_told 112 = .ok (.iconst 0, 1) := by decide +kernel
theorem dL_told_113 : decode cL_told 113 = .ok (.iload_n 3, 1) := by decide +kernel
theorem dL_told_114 : decode cL_told 114 = .ok (.ifCond .ne 7, 3) := by decide +kernel
theorem dL_told_117 : decode cL_told 117 = .ok (.iconst 1, 1) := by decide +kernel
theorem dL_told_118 : decode cL_told 118 = .ok (.goto 4, 3) := by decide +kernel
theorem dL_told_121 : decode cL_told 121 = .ok (.iconst 0, 1) := by decide +kernel
theorem dL_told_122 : decode cL_told 122 = .ok (.if_icmp .ne 21, 3) := by decide +kernel
theorem dL_told_125 : decode cL_told 125 = .ok (.aload_n 0, 1) := by decide +kernel
theorem dL_told_126 : decode cL_told 126 = .ok (.iload_n 1, 1) := by decide +kernel
theorem dL_told_127 : decode cL_told 127 = .ok (.invokestatic 143, 3) := by decide +kernel
theorem dL_told_130 : decode cL_told 130 = .ok (.ifCond .lt 13, 3) := by decide +kernel
theorem dL_told_133 : decode cL_told 133 = .ok (.aload_n 0, 1) := by decide +kernel
theorem dL_told_134 : decode cL_told 134 = .ok (.iload_n 1, 1) := by decide +kernel
theorem dL_told_135 : decode cL_told 135 = .ok (.invokestatic 143, 3) := by decide +kernel
theorem dL_told_138 : decode cL_told 138 = .ok (.bipush 60, 2) := by decide +kernel
theorem dL_told_140 : decode cL_told 140 = .ok (.if_icmp .le 5, 3) := by decide +kernel
theorem dL_told_143 : decode cL_told 143 = .ok (.iconst 0, 1) := by decide +kernel
theorem dL_told_144 : decode cL_told 144 = .ok (.ireturn, 1) := by decide +kernel
theorem dL_told_145 : decode cL_told 145 = .ok (.iload 4, 2) := by decide +kernel
theorem dL_told_147 : decode cL_told 147 = .ok (.ldc 70, 2) := by decide +kernel
theorem dL_told_149 : decode cL_told 149 = .ok (.if_icmp .eq 50, 3) := by decide +kernel
theorem dL_told_152 : decode cL_told 152 = .ok (.iload 4, 2) := by decide +kernel
theorem dL_told_154 : decode cL_told 154 = .ok (.bipush 99, 2) := by decide +kernel
theorem dL_told_156 : decode cL_told 156 = .ok (.if_icmp .ne 10, 3) := by decide +kernel
theorem dL_told_159 : decode cL_told 159 = .ok (.iload 5, 2) := by decide +kernel
theorem dL_told_161 : decode cL_told 161 = .ok (.bipush 6, 2) := by decide +kernel
theorem dL_told_163 : decode cL_told 163 = .ok (.if_icmp .eq 36, 3) := by decide +kernel
theorem dL_told_166 : decode cL_told 166 = .ok (.iload 4, 2) := by decide +kernel
theorem dL_told_168 : decode cL_told 168 = .ok (.bipush 102, 2) := by decide +kernel
theorem dL_told_170 : decode cL_told 170 = .ok (.if_icmp .ne 9, 3) := by decide +kernel
theorem dL_told_173 : decode cL_told 173 = .ok (.iload 5, 2) := by decide +kernel
theorem dL_told_175 : decode cL_told 175 = .ok (.iconst 5, 1) := by decide +kernel
theorem dL_told_176 : decode cL_told 176 = .ok (.if_icmp .eq 23, 3) := by decide +kernel
theorem dL_told_179 : decode cL_told 179 = .ok (.iload 4, 2) := by decide +kernel
theorem dL_told_181 : decode cL_told 181 = .ok (.bipush 114, 2) := by decide +kernel
theorem dL_told_183 : decode cL_told 183 = .ok (.if_icmp .ne 20, 3) := by decide +kernel
theorem dL_told_186 : decode cL_told 186 = .ok (.iload 5, 2) := by decide +kernel
theorem dL_told_188 : decode cL_told 188 = .ok (.iconst 2, 1) := by decide +kernel
theorem dL_told_189 : decode cL_told 189 = .ok (.if_icmp .le 14, 3) := by decide +kernel
theorem dL_told_192 : decode cL_told 192 = .ok (.iload 5, 2) := by decide +kernel
theorem dL_told_194 : decode cL_told 194 = .ok (.bipush 15, 2) := by decide +kernel
theorem dL_told_196 : decode cL_told 196 = .ok (.if_icmp .ge 7, 3) := by decide +kernel
theorem dL_told_199 : decode cL_told 199 = .ok (.iconst 1, 1) := by decide +kernel
theorem dL_told_200 : decode cL_told 200 = .ok (.goto 4, 3) := by decide +kernel
theorem dL_told_203 : decode cL_told 203 = .ok (.iconst 0, 1) := by decide +kernel
theorem dL_told_204 : decode cL_told 204 = .ok (.ireturn, 1) := by decide +kernel
theorem dL_law_0 : decode cL_law 0 = .ok (.new 14, 3) := by decide +kernel
theorem dL_law_3 : decode cL_law 3 = .ok (.dup, 1) := by decide +kernel
theorem dL_law_4 : decode cL_law 4 = .ok (.invokespecial 145, 3) := by decide +kernel
theorem dL_law_7 : decode cL_law 7 = .ok (.astore_n 1, 1) := by decide +kernel
theorem dL_law_8 : decode cL_law 8 = .ok (.iconst 1, 1) := by decide +kernel
theorem dL_law_9 : decode cL_law 9 = .ok (.aload_n 0, 1) := by decide +kernel
theorem dL_law_10 : decode cL_law 10 = .ok (.iconst 0, 1) := by decide +kernel
theorem dL_law_11 : decode cL_law 11 = .ok (.iconst 4, 1) := by decide +kernel
theorem dL_law_12 : decode cL_law 12 = .ok (.invokestatic 146, 3) := by decide +kernel
theorem dL_law_15 : decode cL_law 15 = .ok (.iadd, 1) := by decide +kernel
theorem dL_law_16 : decode cL_law 16 = .ok (.istore_n 2, 1) := by decide +kernel
theorem dL_law_17 : decode cL_law 17 = .ok (.iconst 1, 1) := by decide +kernel
theorem dL_law_18 : decode cL_law 18 = .ok (.aload_n 0, 1) := by decide +kernel
theorem dL_law_19 : decode cL_law 19 = .ok (.iconst 1, 1) := by decide +kernel
theorem dL_law_20 : decode cL_law 20 = .ok (.bipush 6, 2) := by decide +kernel
theorem dL_law_22 : decode cL_law 22 = .ok (.invokestatic 146, 3) := by decide +kernel
theorem dL_law_25 : decode cL_law 25 = .ok (.iadd, 1) := by decide +kernel
theorem dL_law_26 : decode cL_law 26 = .ok (.istore_n 3, 1) := by decide +kernel
theorem dL_law_27 : decode cL_law 27 = .ok (.iload_n 3, 1) := by decide +kernel
theorem dL_law_28 : decode cL_law 28 = .ok (.newarray .int, 2) := by decide +kernel
theorem dL_law_30 : decode cL_law 30 = .ok (.astore 4, 2) := by decide +kernel
theorem dL_law_32 : decode cL_law 32 = .ok (.iload_n 2, 1) := by decide +kernel
theorem dL_law_33 : decode cL_law 33 = .ok (.newarray .int, 2) := by decide +kernel
theorem dL_law_35 : decode cL_law 35 = .ok (.astore 5, 2) := by decide +kernel
theorem dL_law_37 : decode cL_law 37 = .ok (.sipush 256, 3) := by decide +kernel
theorem dL_law_40 : decode cL_law 40 = .ok (.newarray .boolean, 2) := by decide +kernel
theorem dL_law_42 : decode cL_law 42 = .ok (.astore 6, 2) := by decide +kernel
theorem dL_law_44 : decode cL_law 44 = .ok (.aload 6, 2) := by decide +kernel
theorem dL_law_46 : decode cL_law 46 = .ok (.iconst 0, 1) := by decide +kernel
theorem dL_law_47 : decode cL_law 47 = .ok (.iconst 1, 1) := by decide +kernel
theorem dL_law_48 : decode cL_law 48 = .ok (.bastore, 1) := by decide +kernel
theorem dL_law_49 : decode cL_law 49 = .ok (.lconst 0, 1) := by decide +kernel
theorem dL_law_50 : decode cL_law 50 = .ok (.lstore 7, 2) := by decide +kernel
theorem dL_law_52 : decode cL_law 52 = .ok (.iconst 0, 1) := by decide +kernel
theorem dL_law_53 : decode cL_law 53 = .ok (.istore 9, 2) := by decide +kernel
theorem dL_law_55 : decode cL_law 55 = .ok (.iload 9, 2) := by decide +kernel
theorem dL_law_57 : decode cL_law 57 = .ok (.iload_n 2, 1) := by decide +kernel
theorem dL_law_58 : decode cL_law 58 = .ok (.if_icmp .ge 20, 3) := by decide +kernel
theorem dL_law_61 : decode cL_law 61 = .ok (.aload_n 1, 1) := by decide +kernel
theorem dL_law_62 : decode cL_law 62 = .ok (.invokestatic 150, 3) := by decide +kernel
theorem dL_law_65 : decode cL_law 65 = .ok (.iload 9, 2) := by decide +kernel
theorem dL_law_67 : decode cL_law 67 = .ok (.if_icmp .eq 5, 3) := by decide +kernel
theorem dL_law_70 : decode cL_law 70 = .ok (.iconst 0, 1) := by decide +kernel
theorem dL_law_71 : decode cL_law 71 = .ok (.ireturn, 1) := by decide +kernel
theorem dL_law_72 : decode cL_law 72 = .ok (.iinc 9 1, 3) := by decide +kernel
theorem dL_law_75 : decode cL_law 75 = .ok (.goto (-20), 3) := by decide +kernel
theorem dL_law_78 : decode cL_law 78 = .ok (.iconst 0, 1) := by decide +kernel
theorem dL_law_79 : decode cL_law 79 = .ok (.istore 9, 2) := by decide +kernel
theorem dL_law_81 : decode cL_law 81 = .ok (.iload 9, 2) := by decide +kernel
theorem dL_law_83 : decode cL_law 83 = .ok (.iload_n 3, 1) := by decide +kernel
theorem dL_law_84 : decode cL_law 84 = .ok (.if_icmp .ge 50, 3) := by decide +kernel
theorem dL_law_87 : decode cL_law 87 = .ok (.aload 4, 2) := by decide +kernel
theorem dL_law_89 : decode cL_law 89 = .ok (.iload 9, 2) := by decide +kernel
theorem dL_law_91 : decode cL_law 91 = .ok (.aload_n 0, 1) := by decide +kernel
theorem dL_law_92 : decode cL_law 92 = .ok (.iconst 2, 1) := by decide +kernel
theorem dL_law_93 : decode cL_law 93 = .ok (.iload 9, 2) := by decide +kernel
theorem dL_law_95 : decode cL_law 95 = .ok (.iadd, 1) := by decide +kernel
theorem dL_law_96 : decode cL_law 96 = .ok (.iload_n 2, 1) := by decide +kernel
theorem dL_law_97 : decode cL_law 97 = .ok (.invokestatic 146, 3) := by decide +kernel
theorem dL_law_100 : decode cL_law 100 = .ok (.iastore, 1) := by decide +kernel
theorem dL_law_101 : decode cL_law 101 = .ok (.aload_n 1, 1) := by decide +kernel
theorem dL_law_102 : decode cL_law 102 = .ok (.aload 4, 2) := by decide +kernel
theorem dL_law_104 : decode cL_law 104 = .ok (.iload 9, 2) := by decide +kernel
theorem dL_law_106 : decode cL_law 106 = .ok (.iaload, 1) := by decide +kernel
theorem dL_law_107 : decode cL_law 107 = .ok (.aload_n 0, 1) := by decide +kernel
theorem dL_law_108 : decode cL_law 108 = .ok (.bipush 8, 2) := by decide +kernel
theorem dL_law_110 : decode cL_law 110 = .ok (.iload 9, 2) := by decide +kernel
theorem dL_law_112 : decode cL_law 112 = .ok (.iadd, 1) := by decide +kernel
theorem dL_law_113 : decode cL_law 113 = .ok (.bipush 10, 2) := by decide +kernel
theorem dL_law_115 : decode cL_law 115 = .ok (.invokestatic 146, 3) := by decide +kernel
theorem dL_law_118 : decode cL_law 118 = .ok (.invokestatic 153, 3) := by decide +kernel
theorem dL_law_121 : decode cL_law 121 = .ok (.iload 9, 2) := by decide +kernel
theorem dL_law_123 : decode cL_law 123 = .ok (.if_icmp .eq 5, 3) := by decide +kernel
theorem dL_law_126 : decode cL_law 126 = .ok (.iconst 0, 1) := by decide +kernel
theorem dL_law_127 : decode cL_law 127 = .ok (.ireturn, 1) := by decide +kernel
theorem dL_law_128 : decode cL_law 128 = .ok (.iinc 9 1, 3) := by decide +kernel
theorem dL_law_131 : decode cL_law 131 = .ok (.goto (-50), 3) := by decide +kernel
theorem dL_law_134 : decode cL_law 134 = .ok (.iconst 0, 1) := by decide +kernel
theorem dL_law_135 : decode cL_law 135 = .ok (.istore 9, 2) := by decide +kernel
theorem dL_law_137 : decode cL_law 137 = .ok (.iload 9, 2) := by decide +kernel
theorem dL_law_139 : decode cL_law 139 = .ok (.bipush 45, 2) := by decide +kernel
theorem dL_law_141 : decode cL_law 141 = .ok (.if_icmp .ge 1189, 3) := by decide +kernel
theorem dL_law_144 : decode cL_law 144 = .ok (.bipush 14, 2) := by decide +kernel
theorem dL_law_146 : decode cL_law 146 = .ok (.bipush 7, 2) := by decide +kernel
theorem dL_law_148 : decode cL_law 148 = .ok (.iload 9, 2) := by decide +kernel
theorem dL_law_150 : decode cL_law 150 = .ok (.imul, 1) := by decide +kernel
theorem dL_law_151 : decode cL_law 151 = .ok (.iadd, 1) := by decide +kernel
theorem dL_law_152 : decode cL_law 152 = .ok (.istore 10, 2) := by decide +kernel
theorem dL_law_154 : decode cL_law 154 = .ok (.aload_n 0, 1) := by decide +kernel
theorem dL_law_155 : decode cL_law 155 = .ok (.iload 10, 2) := by decide +kernel
theorem dL_law_157 : decode cL_law 157 = .ok (.bipush 13, 2) := by decide +kernel
theorem dL_law_159 : decode cL_law 159 = .ok (.invokestatic 146, 3) := by decide +kernel
theorem dL_law_162 : decode cL_law 162 = .ok (.istore 11, 2) := by decide +kernel
theorem dL_law_164 : decode cL_law 164 = .ok (.aload_n 0, 1) := by decide +kernel
theorem dL_law_165 : decode cL_law 165 = .ok (.iload 10, 2) := by decide +kernel
theorem dL_law_167 : decode cL_law 167 = .ok (.iconst 1, 1) := by decide +kernel
theorem dL_law_168 : decode cL_law 168 = .ok (.iadd, 1) := by decide +kernel
theorem dL_law_169 : decode cL_law 169 = .ok (.iload_n 2, 1) := by decide +kernel
theorem dL_law_170 : decode cL_law 170 = .ok (.invokestatic 146, 3) := by decide +kernel
theorem dL_law_173 : decode cL_law 173 = .ok (.istore 12, 2) := by decide +kernel
theorem dL_law_175 : decode cL_law 175 = .ok (.aload_n 0, 1) := by decide +kernel
theorem dL_law_176 : decode cL_law 176 = .ok (.iload 10, 2) := by decide +kernel
theorem dL_law_178 : decode cL_law 178 = .ok (.iconst 2, 1) := by decide +kernel
theorem dL_law_179 : decode cL_law 179 = .ok (.iadd, 1) := by decide +kernel
theorem dL_law_180 : decode cL_law 180 = .ok (.iload_n 3, 1) := by decide +kernel
theorem dL_law_181 : decode cL_law 181 = .ok (.invokestatic 146, 3) := by decide +kernel
theorem dL_law_184 : decode cL_law 184 = .ok (.istore 13, 2) := by decide +kernel
theorem dL_law_186 : decode cL_law 186 = .ok (.aload 5, 2) := by decide +kernel
theorem dL_law_188 : decode cL_law 188 = .ok (.iload 12, 2) := by decide +kernel
theorem dL_law_190 : decode cL_law 190 = .ok (.iaload, 1) := by decide +kernel
theorem dL_law_191 : decode cL_law 191 = .ok (.ifCond .ne 7, 3) := by decide +kernel
theorem dL_law_194 : decode cL_law 194 = .ok (.iconst 0, 1) := by decide +kernel
theorem dL_law_195 : decode cL_law 195 = .ok (.goto 16, 3) := by decide +kernel
theorem dL_law_198 : decode cL_law 198 = .ok (.aload_n 0, 1) := by decide +kernel
theorem dL_law_199 : decode cL_law 199 = .ok (.iload 10, 2) := by decide +kernel
theorem dL_law_201 : decode cL_law 201 = .ok (.iconst 3, 1) := by decide +kernel
theorem dL_law_202 : decode cL_law 202 = .ok (.iadd, 1) := by decide +kernel
theorem dL_law_203 : decode cL_law 203 = .ok (.aload 5, 2) := by decide +kernel
theorem dL_law_205 : decode cL_law 205 = .ok (.iload 12, 2) := by decide +kernel
theorem dL_law_207 : decode cL_law 207 = .ok (.iaload, 1) := by decide +kernel
theorem dL_law_208 : decode cL_law 208 = .ok (.invokestatic 146, 3) := by decide +kernel
theorem dL_law_211 : decode cL_law 211 = .ok (.istore 14, 2) := by decide +kernel
theorem dL_law_213 : decode cL_law 213 = .ok (.iload 11, 2) := by decide +kernel
theorem dL_law_215 : decode cL_law 215 = .ok (.iconst 2, 1) := by decide +kernel
theorem dL_law_216 : decode cL_law 216 = .ok (.if_icmp .ge 108, 3) := by decide +kernel
theorem dL_law_219 : decode cL_law 219 = .ok (.aload_n 1, 1) := by decide +kernel
theorem dL_law_220 : decode cL_law 220 = .ok (.iload 12, 2) := by decide +kernel
theorem dL_law_222 : decode cL_law 222 = .ok (.aload_n 0, 1) := by decide +kernel
theorem dL_law_223 : decode cL_law 223 = .ok (.iload 10, 2) := by decide +kernel
theorem dL_law_225 : decode cL_law 225 = .ok (.iconst 3, 1) := by decide +kernel
theorem dL_law_226 : decode cL_law 226 = .ok (.iadd, 1) := by decide +kernel
theorem dL_law_227 : decode cL_law 227 = .ok (.bipush 17, 2) := by decide +kernel
theorem dL_law_229 : decode cL_law 229 = .ok (.invokestatic 146, 3) := by decide +kernel
theorem dL_law_232 : decode cL_law 232 = .ok (.iconst 5, 1) := by decide +kernel
theorem dL_law_233 : decode cL_law 233 = .ok (.isub, 1) := by decide +kernel
theorem dL_law_234 : decode cL_law 234 = .ok (.aload_n 0, 1) := by decide +kernel
theorem dL_law_235 : decode cL_law 235 = .ok (.iload 10, 2) := by decide +kernel
theorem dL_law_237 : decode cL_law 237 = .ok (.iconst 4, 1) := by decide +kernel
theorem dL_law_238 : decode cL_law 238 = .ok (.iadd, 1) := by decide +kernel
theorem dL_law_239 : decode cL_law 239 = .ok (.bipush 13, 2) := by decide +kernel
theorem dL_law_241 : decode cL_law 241 = .ok (.invokestatic 146, 3) := by decide +kernel
theorem dL_law_244 : decode cL_law 244 = .ok (.iconst 5, 1) := by decide +kernel
theorem dL_law_245 : decode cL_law 245 = .ok (.isub, 1) := by decide +kernel
theorem dL_law_246 : decode cL_law 246 = .ok (.iconst 1, 1) := by decide +kernel
theorem dL_law_247 : decode cL_law 247 = .ok (.aload_n 0, 1) := by decide +kernel
theorem dL_law_248 : decode cL_law 248 = .ok (.iload 10, 2) := by decide +kernel
theorem dL_law_250 : decode cL_law 250 = .ok (.iconst 5, 1) := by decide +kernel
theorem dL_law_251 : decode cL_law 251 = .ok (.iadd, 1) := by decide +kernel
theorem dL_law_252 : decode cL_law 252 = .ok (.bipush 12, 2) := by decide +kernel
theorem dL_law_254 : decode cL_law 254 = .ok (.invokestatic 146, 3) := by decide +kernel
theorem dL_law_257 : decode cL_law 257 = .ok (.iadd, 1) := by decide +kernel
theorem dL_law_258 : decode cL_law 258 = .ok (.iconst 1, 1) := by decide +kernel
theorem dL_law_259 : decode cL_law 259 = .ok (.aload_n 0, 1) := by decide +kernel
theorem dL_law_260 : decode cL_law 260 = .ok (.iload 10, 2) := by decide +kernel
theorem dL_law_262 : decode cL_law 262 = .ok (.bipush 6, 2) := by decide +kernel
theorem dL_law_264 : decode cL_law 264 = .ok (.iadd, 1) := by decide +kernel
theorem dL_law_265 : decode cL_law 265 = .ok (.bipush 8, 2) := by decide +kernel
theorem dL_law_267 : decode cL_law 267 = .ok (.invokestatic 146, 3) := by decide +kernel
theorem dL_law_270 : decode cL_law 270 = .ok (.iadd, 1) := by decide +kernel
theorem dL_law_271 : decode cL_law 271 = .ok (.invokestatic 156, 3) := by decide +kernel
theorem dL_law_274 : decode cL_law 274 = .ok (.istore 15, 2) := by decide +kernel
theorem dL_law_276 : decode cL_law 276 = .ok (.iload 15, 2) := by decide +kernel
theorem dL_law_278 : decode cL_law 278 = .ok (.aload 5, 2) := by decide +kernel
theorem dL_law_280 : decode cL_law 280 = .ok (.iload 12, 2) := by decide +kernel
theorem dL_law_282 : decode cL_law 282 = .ok (.iaload, 1) := by decide +kernel
theorem dL_law_283 : decode cL_law 283 = .ok (.bipush 6, 2) := by decide +kernel
theorem dL_law_285 : decode cL_law 285 = .ok (.if_icmp .ne 8, 3) := by decide +kernel
theorem dL_law_288 : decode cL_law 288 = .ok (.ldc 21, 2) := by decide +kernel
theorem dL_law_290 : decode cL_law 290 = .ok (.goto 8, 3) := by decide +kernel
theorem dL_law_293 : decode cL_law 293 = .ok (.aload 5, 2) := by decide +kernel
theorem dL_law_295 : decode cL_law 295 = .ok (.iload 12, 2) := by decide +kernel
theorem dL_law_297 : decode cL_law 297 = .ok (.iaload, 1) := by decide +kernel
theorem dL_law_298 : decode cL_law 298 = .ok (.if_icmp .eq 5, 3) := by decide +kernel
theorem dL_law_301 : decode cL_law 301 = .ok (.iconst 0, 1) := by decide +kernel
theorem dL_law_302 : decode cL_law 302 = .ok (.ireturn, 1) := by decide +kernel
theorem dL_law_303 : decode cL_law 303 = .ok (.aload 5, 2) := by decide +kernel
theorem dL_law_305 : decode cL_law 305 = .ok (.iload 12, 2) := by decide +kernel
theorem dL_law_307 : decode cL_law 307 = .ok (.dup2, 1) := by decide +kernel
theorem dL_law_308 : decode cL_law 308 = .ok (.iaload, 1) := by decide +kernel
theorem dL_law_309 : decode cL_law 309 = .ok (.iload 15, 2) := by decide +kernel
theorem dL_law_311 : decode cL_law 311 = .ok (.ifCond .ge 7, 3) := by decide +kernel
theorem dL_law_314 : decode cL_law 314 = .ok (.iconst 0, 1) := by decide +kernel
theorem dL_law_315 : decode cL_law 315 = .ok (.goto 4, 3) := by decide +kernel
theorem dL_law_318 : decode cL_law 318 = .ok (.iconst 1, 1) := by decide +kernel
theorem dL_law_319 : decode cL_law 319 = .ok (.iadd, 1) := by decide +kernel
theorem dL_law_320 : decode cL_law 320 = .ok (.iastore, 1) := by decide +kernel
theorem dL_law_321 : decode cL_law 321 = .ok (.goto 909, 3) := by decide +kernel
theorem dL_law_324 : decode cL_law 324 = .ok (.iload 11, 2) := by decide +kernel
theorem dL_law_326 : decode cL_law 326 = .ok (.iconst 5, 1) := by decide +kernel
theorem dL_law_327 : decode cL_law 327 = .ok (.if_icmp .ge 124, 3) := by decide +kernel
theorem dL_law_330 : decode cL_law 330 = .ok (.bipush 10, 2) := by decide +kernel
theorem dL_law_332 : decode cL_law 332 = .ok (.aload_n 0, 1) := by decide +kernel
theorem dL_law_333 : decode cL_law 333 = .ok (.iload 10, 2) := by decide +kernel
theorem dL_law_335 : decode cL_law 335 = .ok (.iconst 2, 1) := by decide +kernel
theorem dL_law_336 : decode cL_law 336 = .ok (.iadd, 1) := by decide +kernel
theorem dL_law_337 : decode cL_law 337 = .ok (.bipush 9, 2) := by decide +kernel
theorem dL_law_339 : decode cL_law 339 = .ok (.invokestatic 146, 3) := by decide +kernel
theorem dL_law_342 : decode cL_law 342 = .ok (.imul, 1) := by decide +kernel
theorem dL_law_343 : decode cL_law 343 = .ok (.istore 15, 2) := by decide +kernel
theorem dL_law_345 : decode cL_law 345 = .ok (.aload_n 1, 1) := by decide +kernel
theorem dL_law_346 : decode cL_law 346 = .ok (.iload 12, 2) := by decide +kernel
theorem dL_law_348 : decode cL_law 348 = .ok (.iload 14, 2) := by decide +kernel
theorem dL_law_350 : decode cL_law 350 = .ok (.aload_n 0, 1) := by decide +kernel
theorem dL_law_351 : decode cL_law 351 = .ok (.iload 10, 2) := by decide +kernel
theorem dL_law_353 : decode cL_law 353 = .ok (.iconst 4, 1) := by decide +kernel
theorem dL_law_354 : decode cL_law 354 = .ok (.iadd, 1) := by decide +kernel
theorem dL_law_355 : decode cL_law 355 = .ok (.bipush 6, 2) := by decide +kernel
theorem dL_law_357 : decode cL_law 357 = .ok (.invokestatic 146, 3) := by decide +kernel
theorem dL_law_360 : decode cL_law 360 = .ok (.aload_n 0, 1) := by decide +kernel
theorem dL_law_361 : decode cL_law 361 = .ok (.iload 10, 2) := by decide +kernel
theorem dL_law_363 : decode cL_law 363 = .ok (.iconst 5, 1) := by decide +kernel
theorem dL_law_364 : decode cL_law 364 = .ok (.iadd, 1) := by decide +kernel
theorem dL_law_365 : decode cL_law 365 = .ok (.iconst 4, 1) := by decide +kernel
theorem dL_law_366 : decode cL_law 366 = .ok (.invokestatic 146, 3) := by decide +kernel
theorem dL_law_369 : decode cL_law 369 = .ok (.iconst 1, 1) := by decide +kernel
theorem dL_law_370 : decode cL_law 370 = .ok (.aload_n 0, 1) := by decide +kernel
theorem dL_law_371 : decode cL_law 371 = .ok (.iload 10, 2) := by decide +kernel
theorem dL_law_373 : decode cL_law 373 = .ok (.bipush 6, 2) := by decide +kernel
theorem dL_law_375 : decode cL_law 375 = .ok (.iadd, 1) := by decide +kernel
theorem dL_law_376 : decode cL_law 376 = .ok (.bipush 8, 2) := by decide +kernel
theorem dL_law_378 : decode cL_law 378 = .ok (.invokestatic 146, 3) := by decide +kernel
theorem dL_law_381 : decode cL_law 381 = .ok (.iadd, 1) := by decide +kernel
theorem dL_law_382 : decode cL_law 382 = .ok (.iconst 1, 1) := by decide +kernel
theorem dL_law_383 : decode cL_law 383 = .ok (.aload_n 0, 1) := by decide +kernel
theorem dL_law_384 : decode cL_law 384 = .ok (.iload 10, 2) := by decide +kernel
theorem dL_law_386 : decode cL_law 386 = .ok (.iconst 2, 1) := by decide +kernel
theorem dL_law_387 : decode cL_law 387 = .ok (.iadd, 1) := by decide +kernel
theorem dL_law_388 : decode cL_law 388 = .ok (.bipush 6, 2) := by decide +kernel
theorem dL_law_390 : decode cL_law 390 = .ok (.invokestatic 146, 3) := by decide +kernel
theorem dL_law_393 : decode cL_law 393 = .ok (.iadd, 1) := by decide +kernel
theorem dL_law_394 : decode cL_law 394 = .ok (.iload 15, 2) := by decide +kernel
theorem dL_law_396 : decode cL_law 396 = .ok (.invokestatic 159, 3) := by decide +kernel
theorem dL_law_399 : decode cL_law 399 = .ok (.istore 16, 2) := by decide +kernel
theorem dL_law_401 : decode cL_law 401 = .ok (.iload 16, 2) := by decide +kernel
theorem dL_law_403 : decode cL_law 403 = .ok (.ifCond .le 9, 3) := by decide +kernel
theorem dL_law_406 : decode cL_law 406 = .ok (.aload 6, 2) := by decide +kernel
theorem dL_law_408 : decode cL_law 408 = .ok (.iload 15, 2) := by decide +kernel
theorem dL_law_410 : decode cL_law 410 = .ok (.iconst 1, 1) := by decide +kernel
theorem dL_law_411 : decode cL_law 411 = .ok (.bastore, 1) := by decide +kernel
theorem dL_law_412 : decode cL_law 412 = .ok (.iload 16, 2) := by decide +kernel
theorem dL_law_414 : decode cL_law 414 = .ok (.ifCond .lt 23, 3) := by decide +kernel
theorem dL_law_417 : decode cL_law 417 = .ok (.aload_n 1, 1) := by decide +kernel
theorem dL_law_418 : decode cL_law 418 = .ok (.iload 12, 2) := by decide +kernel
theorem dL_law_420 : decode cL_law 420 = .ok (.iload 14, 2) := by decide +kernel
theorem dL_law_422 : decode cL_law 422 = .ok (.iconst 0, 1) := by decide +kernel
theorem dL_law_423 : decode cL_law 423 = .ok (.iconst 0, 1) := by decide +kernel
theorem dL_law_424 : decode cL_law 424 = .ok (.iconst 1, 1) := by decide +kernel
theorem dL_law_425 : decode cL_law 425 = .ok (.iconst 1, 1) := by decide +kernel
theorem dL_law_426 : decode cL_law 426 = .ok (.iload 15, 2) := by decide +kernel
theorem dL_law_428 : decode cL_law 428 = .ok (.invokestatic 159, 3) := by decide +kernel
theorem dL_law_431 : decode cL_law 431 = .ok (.iconst 1, 1) := by decide +kernel
theorem dL_law_432 : decode cL_law 432 = .ok (.if_icmp .le 5, 3) := by decide +kernel
theorem dL_law_435 : decode cL_law 435 = .ok (.iconst 0, 1) := by decide +kernel
theorem dL_law_436 : decode cL_law 436 = .ok (.ireturn, 1) := by decide +kernel
theorem dL_law_437 : decode cL_law 437 = .ok (.iload 16, 2) := by decide +kernel
theorem dL_law_439 : decode cL_law 439 = .ok (.ifCond .lt 9, 3) := by decide +kernel
theorem dL_law_442 : decode cL_law 442 = .ok (.aload 6, 2) := by decide +kernel
theorem dL_law_444 : decode cL_law 444 = .ok (.iload 15, 2) := by decide +kernel
theorem dL_law_446 : decode cL_law 446 = .ok (.iconst 1, 1) := by decide +kernel
theorem dL_law_447 : decode cL_law 447 = .ok (.bastore, 1) := by decide +kernel
theorem dL_law_448 : decode cL_law 448 = .ok (.goto 782, 3) := by decide +kernel
theorem dL_law_451 : decode cL_law 451 = .ok (.iload 11, 2) := by decide +kernel
theorem dL_law_453 : decode cL_law 453 = .ok (.iconst 5, 1) := by decide +kernel
theorem dL_law_454 : decode cL_law 454 = .ok (.if_icmp .ne 89, 3) := by decide +kernel
theorem dL_law_457 : decode cL_law 457 = .ok (.aload_n 1, 1) := by decide +kernel
theorem dL_law_458 : decode cL_law 458 = .ok (.iload 12, 2) := by decide +kernel
theorem dL_law_460 : decode cL_law 460 = .ok (.iload 14, 2) := by decide +kernel
theorem dL_law_462 : decode cL_law 462 = .ok (.aload_n 0, 1) := by decide +kernel
theorem dL_law_463 : decode cL_law 463 = .ok (.iload 10, 2) := by decide +kernel
theorem dL_law_465 : decode cL_law 465 = .ok (.iconst 4, 1) := by decide +kernel
theorem dL_law_466 : decode cL_law 466 = .ok (.iadd, 1) := by decide +kernel
theorem dL_law_467 : decode cL_law 467 = .ok (.bipush 17, 2) := by decide +kernel
theorem dL_law_469 : decode cL_law 469 = .ok (.invokestatic 146, 3) := by decide +kernel
theorem dL_law_472 : decode cL_law 472 = .ok (.iconst 5, 1) := by decide +kernel
theorem dL_law_473 : decode cL_law 473 = .ok (.isub, 1) := by decide +kernel
theorem dL_law_474 : decode cL_law 474 = .ok (.aload_n 0, 1) := by decide +kernel
theorem dL_law_475 : decode cL_law 475 = .ok (.iload 10, 2) := by decide +kernel
theorem dL_law_477 : decode cL_law 477 = .ok (.iconst 5, 1) := by decide +kernel
theorem dL_law_478 : decode cL_law 478 = .ok (.iadd, 1) := by decide +kernel
theorem dL_law_479 : decode cL_law 479 = .ok (.bipush 13, 2) := by decide +kernel
theorem dL_law_481 : decode cL_law 481 = .ok (.invokestatic 146, 3) := by decide +kernel
theorem dL_law_484 : decode cL_law 484 = .ok (.iconst 5, 1) := by decide +kernel
theorem dL_law_485 : decode cL_law 485 = .ok (.isub, 1) := by decide +kernel
theorem dL_law_486 : decode cL_law 486 = .ok (.invokestatic 162, 3) := by decide +kernel
theorem dL_law_489 : decode cL_law 489 = .ok (.istore 15, 2) := by decide +kernel
theorem dL_law_491 : decode cL_law 491 = .ok (.iload 15, 2) := by decide +kernel
theorem dL_law_493 : decode cL_law 493 = .ok (.bipush 96, 2) := by decide +kernel
theorem dL_law_495 : decode cL_law 495 = .ok (.if_icmp .gt 43, 3) := by decide +kernel
theorem dL_law_498 : decode cL_law 498 = .ok (.iload 15, 2) := by decide +kernel
theorem dL_law_500 : decode cL_law 500 = .ok (.ifCond .lt 40, 3) := by decide +kernel
theorem dL_law_503 : decode cL_law 503 = .ok (.aload_n 1, 1) := by decide +kernel
theorem dL_law_504 : decode cL_law 504 = .ok (.iload 12, 2) := by decide +kernel
theorem dL_law_506 : decode cL_law 506 = .ok (.iload 14, 2) := by decide +kernel
theorem dL_law_508 : decode cL_law 508 = .ok (.aload_n 0, 1) := by decide +kernel
theorem dL_law_509 : decode cL_law 509 = .ok (.iload 10, 2) := by decide +kernel
theorem dL_law_511 : decode cL_law 511 = .ok (.iconst 4, 1) := by decide +kernel
theorem dL_law_512 : decode cL_law 512 = .ok (.iadd, 1) := by decide +kernel
theorem dL_law_513 : decode cL_law 513 = .ok (.bipush 17, 2) := by decide +kernel
theorem dL_law_515 : decode cL_law 515 = .ok (.invokestatic 146, 3) := by decide +kernel
theorem dL_law_518 : decode cL_law 518 = .ok (.iconst 5, 1) := by decide +kernel
theorem dL_law_519 : decode cL_law 519 = .ok (.isub, 1) := by decide +kernel
theorem dL_law_520 : decode cL_law 520 = .ok (.aload_n 0, 1) := by decide +kernel
theorem dL_law_521 : decode cL_law 521 = .ok (.iload 10, 2) := by decide +kernel
theorem dL_law_523 : decode cL_law 523 = .ok (.iconst 5, 1) := by decide +kernel
theorem dL_law_524 : decode cL_law 524 = .ok (.iadd, 1) := by decide +kernel
theorem dL_law_525 : decode cL_law 525 = .ok (.bipush 13, 2) := by decide +kernel
theorem dL_law_527 : decode cL_law 527 = .ok (.invokestatic 146, 3) := by decide +kernel
theorem dL_law_530 : decode cL_law 530 = .ok (.iconst 5, 1) := by decide +kernel
theorem dL_law_531 : decode cL_law 531 = .ok (.isub, 1) := by decide +kernel
theorem dL_law_532 : decode cL_law 532 = .ok (.invokestatic 162, 3) := by decide +kernel
theorem dL_law_535 : decode cL_law 535 = .ok (.ifCond .eq 5, 3) := by decide +kernel
theorem dL_law_538 : decode cL_law 538 = .ok (.iconst 0, 1) := by decide +kernel
theorem dL_law_539 : decode cL_law 539 = .ok (.ireturn, 1) := by decide +kernel
theorem dL_law_540 : decode cL_law 540 = .ok (.goto 690, 3) := by decide +kernel
theorem dL_law_543 : decode cL_law 543 = .ok (.iload 11, 2) := by decide +kernel
theorem dL_law_545 : decode cL_law 545 = .ok (.bipush 6, 2) := by decide +kernel
theorem dL_law_547 : decode cL_law 547 = .ok (.if_icmp .ne 119, 3) := by decide +kernel
theorem dL_law_550 : decode cL_law 550 = .ok (.ldc 165, 2) := by decide +kernel
theorem dL_law_552 : decode cL_law 552 = .ok (.aload_n 0, 1) := by decide +kernel
theorem dL_law_553 : decode cL_law 553 = .ok (.iload 10, 2) := by decide +kernel
theorem dL_law_555 : decode cL_law 555 = .ok (.iconst 4, 1) := by decide +kernel
theorem dL_law_556 : decode cL_law 556 = .ok (.iadd, 1) := by decide +kernel
theorem dL_law_557 : decode cL_law 557 = .ok (.iconst 4, 1) := by decide +kernel
theorem dL_law_558 : decode cL_law 558 = .ok (.invokestatic 146, 3) := by decide +kernel
theorem dL_law_561 : decode cL_law 561 = .ok (.invokevirtual 167, 3) := by decide +kernel
theorem dL_law_564 : decode cL_law 564 = .ok (.istore 15, 2) := by decide +kernel
theorem dL_law_566 : decode cL_law 566 = .ok (.aload_n 1, 1) := by decide +kernel
theorem dL_law_567 : decode cL_law 567 = .ok (.iload 15, 2) := by decide +kernel
theorem dL_law_569 : decode cL_law 569 = .ok (.iload 12, 2) := by decide +kernel
theorem dL_law_571 : decode cL_law 571 = .ok (.iload 14, 2) := by decide +kernel
theorem dL_law_573 : decode cL_law 573 = .ok (.aload_n 0, 1) := by decide +kernel
theorem dL_law_574 : decode cL_law 574 = .ok (.iload 10, 2) := by decide +kernel
theorem dL_law_576 : decode cL_law 576 = .ok (.iconst 5, 1) := by decide +kernel
theorem dL_law_577 : decode cL_law 577 = .ok (.iadd, 1) := by decide +kernel
theorem dL_law_578 : decode cL_law 578 = .ok (.iconst 2, 1) := by decide +kernel
theorem dL_law_579 : decode cL_law 579 = .ok (.invokestatic 146, 3) := by decide +kernel
theorem dL_law_582 : decode cL_law 582 = .ok (.aload_n 0, 1) := by decide +kernel
theorem dL_law_583 : decode cL_law 583 = .ok (.iload 10, 2) := by decide +kernel
theorem dL_law_585 : decode cL_law 585 = .ok (.bipush 6, 2) := by decide +kernel
theorem dL_law_587 : decode cL_law 587 = .ok (.iadd, 1) := by decide +kernel
theorem dL_law_588 : decode cL_law 588 = .ok (.iconst 2, 1) := by decide +kernel
theorem dL_law_589 : decode cL_law 589 = .ok (.invokestatic 146, 3) := by decide +kernel
theorem dL_law_592 : decode cL_law 592 = .ok (.ifCond .ne 7, 3) := by decide +kernel
theorem dL_law_595 : decode cL_law 595 = .ok (.iconst 1, 1) := by decide +kernel
theorem dL_law_596 : decode cL_law 596 = .ok (.goto 4, 3) := by decide +kernel
theorem dL_law_599 : decode cL_law 599 = .ok (.iconst 0, 1) := by decide +kernel
theorem dL_law_600 : decode cL_law 600 = .ok (.invokestatic 172, 3) := by decide +kernel
theorem dL_law_603 : decode cL_law 603 = .ok (.istore 16, 2) := by decide +kernel
theorem dL_law_605 : decode cL_law 605 = .ok (.iload 16, 2) := by decide +kernel
theorem dL_law_607 : decode cL_law 607 = .ok (.ifCond .lt 25, 3) := by decide +kernel
theorem dL_law_610 : decode cL_law 610 = .ok (.iload 15, 2) := by decide +kernel
theorem dL_law_612 : decode cL_law 612 = .ok (.bipush 114, 2) := by decide +kernel
theorem dL_law_614 : decode cL_law 614 = .ok (.if_icmp .ne 18, 3) := by decide +kernel
theorem dL_law_617 : decode cL_law 617 = .ok (.aload_n 1, 1) := by decide +kernel
theorem dL_law_618 : decode cL_law 618 = .ok (.bipush 114, 2) := by decide +kernel
theorem dL_law_620 : decode cL_law 620 = .ok (.iload 12, 2) := by decide +kernel
theorem dL_law_622 : decode cL_law 622 = .ok (.iload 14, 2) := by decide +kernel
theorem dL_law_624 : decode cL_law 624 = .ok (.iconst 0, 1) := by decide +kernel
theorem dL_law_625 : decode cL_law 625 = .ok (.iconst 1, 1) := by decide +kernel
theorem dL_law_626 : decode cL_law 626 = .ok (.invokestatic 172, 3) := by decide +kernel
theorem dL_law_629 : decode cL_law 629 = .ok (.ifCond .ne 32, 3) := by decide +kernel
theorem dL_law_632 : decode cL_law 632 = .ok (.iload 16, 2) := by decide +kernel
theorem dL_law_634 : decode cL_law 634 = .ok (.ifCond .lt 29, 3) := by decide +kernel
theorem dL_law_637 : decode cL_law 637 = .ok (.iload 15, 2) := by decide +kernel
theorem dL_law_639 : decode cL_law 639 = .ok (.bipush 99, 2) := by decide +kernel
theorem dL_law_641 : decode cL_law 641 = .ok (.if_icmp .ne 22, 3) := by decide +kernel
theorem dL_law_644 : decode cL_law 644 = .ok (.aload_n 1, 1) := by decide +kernel
theorem dL_law_645 : decode cL_law 645 = .ok (.bipush 99, 2) := by decide +kernel
theorem dL_law_647 : decode cL_law 647 = .ok (.iload 12, 2) := by decide +kernel
theorem dL_law_649 : decode cL_law 649 = .ok (.iload 14, 2) := by decide +kernel
theorem dL_law_651 : decode cL_law 651 = .ok (.iconst 0, 1) := by decide +kernel
theorem dL_law_652 : decode cL_law 652 = .ok (.iconst 1, 1) := by decide +kernel
theorem dL_law_653 : decode cL_law 653 = .ok (.invokestatic 172, 3) := by decide +kernel
theorem dL_law_656 : decode cL_law 656 = .ok (.ldc 28, 2) := by decide +kernel
theorem dL_law_658 : decode cL_law 658 = .ok (.if_icmp .eq 5, 3) := by decide +kernel
theorem dL_law_661 : decode cL_law 661 = .ok (.iconst 0, 1) := by decide +kernel
theorem dL_law_662 : decode cL_law 662 = .ok (.ireturn, 1) := by decide +kernel
theorem dL_law_663 : decode cL_law 663 = .ok (.goto 567, 3) := by decide +kernel
theorem dL_law_666 : decode cL_law 666 = .ok (.iload 11, 2) := by decide +kernel
theorem dL_law_668 : decode cL_law 668 = .ok (.bipush 7, 2) := by decide +kernel
theorem dL_law_670 : decode cL_law 670 = .ok (.if_icmp .ne 87, 3) := by decide +kernel
theorem dL_law_673 : decode cL_law 673 = .ok (.bipush 97, 2) := by decide +kernel
theorem dL_law_675 : decode cL_law 675 = .ok (.aload_n 0, 1) := by decide +kernel
theorem dL_law_676 : decode cL_law 676 = .ok (.iload 10, 2) := by decide +kernel
theorem dL_law_678 : decode cL_law 678 = .ok (.iconst 4, 1) := by decide +kernel
theorem dL_law_679 : decode cL_law 679 = .ok (.iadd, 1) := by decide +kernel
theorem dL_law_680 : decode cL_law 680 = .ok (.bipush 26, 2) := by decide +kernel
theorem dL_law_682 : decode cL_law 682 = .ok (.invokestatic 146, 3) := by decide +kernel
theorem dL_law_685 : decode cL_law 685 = .ok (.iadd, 1) := by decide +kernel
theorem dL_law_686 : decode cL_law 686 = .ok (.i2c, 1) := by decide +kernel
theorem dL_law_687 : decode cL_law 687 = .ok (.istore 15, 2) := by decide +kernel
theorem dL_law_689 : decode cL_law 689 = .ok (.aload_n 1, 1) := by decide +kernel
theorem dL_law_690 : decode cL_law 690 = .ok (.iload 13, 2) := by decide +kernel
theorem dL_law_692 : decode cL_law 692 = .ok (.invokestatic 176, 3) := by decide +kernel
theorem dL_law_695 : decode cL_law 695 = .ok (.istore 16, 2) := by decide +kernel
theorem dL_law_697 : decode cL_law 697 = .ok (.aload_n 1, 1) := by decide +kernel
theorem dL_law_698 : decode cL_law 698 = .ok (.iload 13, 2) := by decide +kernel
theorem dL_law_700 : decode cL_law 700 = .ok (.iload 15, 2) := by decide +kernel
theorem dL_law_702 : decode cL_law 702 = .ok (.invokestatic 178, 3) := by decide +kernel
theorem dL_law_705 : decode cL_law 705 = .ok (.istore 17, 2) := by decide +kernel
theorem dL_law_707 : decode cL_law 707 = .ok (.iload 17, 2) := by decide +kernel
theorem dL_law_709 : decode cL_law 709 = .ok (.ifCond .le 21, 3) := by decide +kernel
theorem dL_law_712 : decode cL_law 712 = .ok (.aload 6, 2) := by decide +kernel
theorem dL_law_714 : decode cL_law 714 = .ok (.bipush 101, 2) := by decide +kernel
theorem dL_law_716 : decode cL_law 716 = .ok (.iload 15, 2) := by decide +kernel
theorem dL_law_718 : decode cL_law 718 = .ok (.iadd, 1) := by decide +kernel
theorem dL_law_719 : decode cL_law 719 = .ok (.bipush 97, 2) := by decide +kernel
theorem dL_law_721 : decode cL_law 721 = .ok (.isub, 1) := by decide +kernel
theorem dL_law_722 : decode cL_law 722 = .ok (.iconst 1, 1) := by decide +kernel
theorem dL_law_723 : decode cL_law 723 = .ok (.bastore, 1) := by decide +kernel
theorem dL_law_724 : decode cL_law 724 = .ok (.aload 6, 2) := by decide +kernel
theorem dL_law_726 : decode cL_law 726 = .ok (.bipush 7, 2) := by decide +kernel
theorem dL_law_728 : decode cL_law 728 = .ok (.iconst 1, 1) := by decide +kernel
theorem dL_law_729 : decode cL_law 729 = .ok (.bastore, 1) := by decide +kernel
theorem dL_law_730 : decode cL_law 730 = .ok (.aload_n 1, 1) := by decide +kernel
theorem dL_law_731 : decode cL_law 731 = .ok (.iload 13, 2) := by decide +kernel
theorem dL_law_733 : decode cL_law 733 = .ok (.invokestatic 176, 3) := by decide +kernel
theorem dL_law_736 : decode cL_law 736 = .ok (.iload 16, 2) := by decide +kernel
theorem dL_law_738 : decode cL_law 738 = .ok (.iload 17, 2) := by decide +kernel
theorem dL_law_740 : decode cL_law 740 = .ok (.ifCond .le 7, 3) := by decide +kernel
theorem dL_law_743 : decode cL_law 743 = .ok (.iconst 1, 1) := by decide +kernel
theorem dL_law_744 : decode cL_law 744 = .ok (.goto 4, 3) := by decide +kernel
theorem dL_law_747 : decode cL_law 747 = .ok (.iconst 0, 1) := by decide +kernel
theorem dL_law_748 : decode cL_law 748 = .ok (.iadd, 1) := by decide +kernel
theorem dL_law_749 : decode cL_law 749 = .ok (.if_icmp .eq 5, 3) := by decide +kernel
theorem dL_law_752 : decode cL_law 752 = .ok (.iconst 0, 1) := by decide +kernel
theorem dL_law_753 : decode cL_law 753 = .ok (.ireturn, 1) := by decide +kernel
theorem dL_law_754 : decode cL_law 754 = .ok (.goto 476, 3) := by decide +kernel
theorem dL_law_757 : decode cL_law 757 = .ok (.iload 11, 2) := by decide +kernel
theorem dL_law_759 : decode cL_law 759 = .ok (.bipush 8, 2) := by decide +kernel
theorem dL_law_761 : decode cL_law 761 = .ok (.if_icmp .ne 90, 3) := by decide +kernel
theorem dL_law_764 : decode cL_law 764 = .ok (.aload_n 1, 1) := by decide +kernel
theorem dL_law_765 : decode cL_law 765 = .ok (.bipush 118, 2) := by decide +kernel
theorem dL_law_767 : decode cL_law 767 = .ok (.iload 12, 2) := by decide +kernel
theorem dL_law_769 : decode cL_law 769 = .ok (.iconst 0, 1) := by decide +kernel
theorem dL_law_770 : decode cL_law 770 = .ok (.iconst 0, 1) := by decide +kernel
theorem dL_law_771 : decode cL_law 771 = .ok (.iconst 1, 1) := by decide +kernel
theorem dL_law_772 : decode cL_law 772 = .ok (.invokestatic 172, 3) := by decide +kernel
theorem dL_law_775 : decode cL_law 775 = .ok (.istore 15, 2) := by decide +kernel
theorem dL_law_777 : decode cL_law 777 = .ok (.iload 15, 2) := by decide +kernel
theorem dL_law_779 : decode cL_law 779 = .ok (.ldc 21, 2) := by decide +kernel
theorem dL_law_781 : decode cL_law 781 = .ok (.if_icmp .eq 14, 3) := by decide +kernel
theorem dL_law_784 : decode cL_law 784 = .ok (.aload_n 1, 1) := by decide +kernel
theorem dL_law_785 : decode cL_law 785 = .ok (.iload 12, 2) := by decide +kernel
theorem dL_law_787 : decode cL_law 787 = .ok (.invokestatic 181, 3) := by decide +kernel
theorem dL_law_790 : decode cL_law 790 = .ok (.bipush 8, 2) := by decide +kernel
theorem dL_law_792 : decode cL_law 792 = .ok (.if_icmp .ne 54, 3) := by decide +kernel
theorem dL_law_795 : decode cL_law 795 = .ok (.iload 15, 2) := by decide +kernel
theorem dL_law_797 : decode cL_law 797 = .ok (.ldc 21, 2) := by decide +kernel
theorem dL_law_799 : decode cL_law 799 = .ok (.if_icmp .ne 14, 3) := by decide +kernel
theorem dL_law_802 : decode cL_law 802 = .ok (.aload_n 1, 1) := by decide +kernel
theorem dL_law_803 : decode cL_law 803 = .ok (.iload 12, 2) := by decide +kernel
theorem dL_law_805 : decode cL_law 805 = .ok (.invokestatic 181, 3) := by decide +kernel
theorem dL_law_808 : decode cL_law 808 = .ok (.ldc 21, 2) := by decide +kernel
theorem dL_law_810 : decode cL_law 810 = .ok (.if_icmp .eq 36, 3) := by decide +kernel
theorem dL_law_813 : decode cL_law 813 = .ok (.iload 15, 2) := by decide +kernel
theorem dL_law_815 : decode cL_law 815 = .ok (.ifCond .lt 33, 3) := by decide +kernel
theorem dL_law_818 : decode cL_law 818 = .ok (.iload 15, 2) := by decide +kernel
theorem dL_law_820 : decode cL_law 820 = .ok (.iconst 1, 1) := by decide +kernel
theorem dL_law_821 : decode cL_law 821 = .ok (.if_icmp .ne 7, 3) := by decide +kernel
theorem dL_law_824 : decode cL_law 824 = .ok (.iconst 1, 1) := by decide +kernel
theorem dL_law_825 : decode cL_law 825 = .ok (.goto 4, 3) := by decide +kernel
theorem dL_law_828 : decode cL_law 828 = .ok (.iconst 0, 1) := by decide +kernel
theorem dL_law_829 : decode cL_law 829 = .ok (.aload_n 1, 1) := by decide +kernel
theorem dL_law_830 : decode cL_law 830 = .ok (.iload 12, 2) := by decide +kernel
theorem dL_law_832 : decode cL_law 832 = .ok (.invokestatic 183, 3) := by decide +kernel
theorem dL_law_835 : decode cL_law 835 = .ok (.ifCond .le 7, 3) := by decide +kernel
theorem dL_law_838 : decode cL_law 838 = .ok (.iconst 1, 1) := by decide +kernel
theorem dL_law_839 : decode cL_law 839 = .ok (.goto 4, 3) := by decide +kernel
theorem dL_law_842 : decode cL_law 842 = .ok (.iconst 0, 1) := by decide +kernel
theorem dL_law_843 : decode cL_law 843 = .ok (.if_icmp .eq 5, 3) := by decide +kernel
theorem dL_law_846 : decode cL_law 846 = .ok (.iconst 0, 1) := by decide +kernel
theorem dL_law_847 : decode cL_law 847 = .ok (.ireturn, 1) := by decide +kernel
theorem dL_law_848 : decode cL_law 848 = .ok (.goto 382, 3) := by decide +kernel
theorem dL_law_851 : decode cL_law 851 = .ok (.iload 11, 2) := by decide +kernel
theorem dL_law_853 : decode cL_law 853 = .ok (.bipush 9, 2) := by decide +kernel
theorem dL_law_855 : decode cL_law 855 = .ok (.if_icmp .ne 37, 3) := by decide +kernel
theorem dL_law_858 : decode cL_law 858 = .ok (.aload_n 1, 1) := by decide +kernel
theorem dL_law_859 : decode cL_law 859 = .ok (.iload 12, 2) := by decide +kernel
theorem dL_law_861 : decode cL_law 861 = .ok (.invokestatic 185, 3) := by decide +kernel
theorem dL_law_864 : decode cL_law 864 = .ok (.ifCond .lt 26, 3) := by decide +kernel
theorem dL_law_867 : decode cL_law 867 = .ok (.aload_n 1, 1) := by decide +kernel
theorem dL_law_868 : decode cL_law 868 = .ok (.iload 12, 2) := by decide +kernel
theorem dL_law_870 : decode cL_law 870 = .ok (.invokestatic 187, 3) := by decide +kernel
theorem dL_law_873 : decode cL_law 873 = .ok (.ifCond .ne 17, 3) := by decide +kernel
theorem dL_law_876 : decode cL_law 876 = .ok (.aload_n 1, 1) := by decide +kernel
theorem dL_law_877 : decode cL_law 877 = .ok (.iload 12, 2) := by decide +kernel
theorem dL_law_879 : decode cL_law 879 = .ok (.iconst 1, 1) := by decide +kernel
theorem dL_law_880 : decode cL_law 880 = .ok (.iconst 0, 1) := by decide +kernel
theorem dL_law_881 : decode cL_law 881 = .ok (.iconst 0, 1) := by decide +kernel
theorem dL_law_882 : decode cL_law 882 = .ok (.invokestatic 189, 3) := by decide +kernel
theorem dL_law_885 : decode cL_law 885 = .ok (.ldc 70, 2) := by decide +kernel
theorem dL_law_887 : decode cL_law 887 = .ok (.if_icmp .eq 343, 3) := by decide +kernel
theorem dL_law_890 : decode cL_law 890 = .ok (.iconst 0, 1) := by decide +kernel
theorem dL_law_891 : decode cL_law 891 = .ok (.ireturn, 1) := by decide +kernel
theorem dL_law_892 : decode cL_law 892 = .ok (.iload 11, 2) := by decide +kernel
theorem dL_law_894 : decode cL_law 894 = .ok (.bipush 10, 2) := by decide +kernel
theorem dL_law_896 : decode cL_law 896 = .ok (.if_icmp .ne 160, 3) := by decide +kernel
theorem dL_law_899 : decode cL_law 899 = .ok (.iload 12, 2) := by decide +kernel
theorem dL_law_901 : decode cL_law 901 = .ok (.iconst 1, 1) := by decide +kernel
theorem dL_law_902 : decode cL_law 902 = .ok (.iadd, 1) := by decide +kernel
theorem dL_law_903 : decode cL_law 903 = .ok (.aload_n 0, 1) := by decide +kernel
theorem dL_law_904 : decode cL_law 904 = .ok (.iload 10, 2) := by decide +kernel
theorem dL_law_906 : decode cL_law 906 = .ok (.iconst 3, 1) := by decide +kernel
theorem dL_law_907 : decode cL_law 907 = .ok (.iadd, 1) := by decide +kernel
theorem dL_law_908 : decode cL_law 908 = .ok (.iconst 3, 1) := by decide +kernel
theorem dL_law_909 : decode cL_law 909 = .ok (.invokestatic 146, 3) := by decide +kernel
theorem dL_law_912 : decode cL_law 912 = .ok (.iadd, 1) := by decide +kernel
theorem dL_law_913 : decode cL_law 913 = .ok (.iload_n 2, 1) := by decide +kernel
theorem dL_law_914 : decode cL_law 914 = .ok (.irem, 1) := by decide +kernel
theorem dL_law_915 : decode cL_law 915 = .ok (.istore 15, 2) := by decide +kernel
theorem dL_law_917 : decode cL_law 917 = .ok (.aload_n 0, 1) := by decide +kernel
theorem dL_law_918 : decode cL_law 918 = .ok (.iload 10, 2) := by decide +kernel
theorem dL_law_920 : decode cL_law 920 = .ok (.iconst 4, 1) := by decide +kernel
theorem dL_law_921 : decode cL_law 921 = .ok (.iadd, 1) := by decide +kernel
theorem dL_law_922 : decode cL_law 922 = .ok (.iconst 3, 1) := by decide +kernel
theorem dL_law_923 : decode cL_law 923 = .ok (.invokestatic 146, 3) := by decide +kernel
theorem dL_law_926 : decode cL_law 926 = .ok (.istore 16, 2) := by decide +kernel
theorem dL_law_928 : decode cL_law 928 = .ok (.iload 15, 2) := by decide +kernel
theorem dL_law_930 : decode cL_law 930 = .ok (.iload 12, 2) := by decide +kernel
theorem dL_law_932 : decode cL_law 932 = .ok (.if_icmp .eq 121, 3) := by decide +kernel
theorem dL_law_935 : decode cL_law 935 = .ok (.aload_n 1, 1) := by decide +kernel
theorem dL_law_936 : decode cL_law 936 = .ok (.bipush 97, 2) := by decide +kernel
theorem dL_law_938 : decode cL_law 938 = .ok (.iload 12, 2) := by decide +kernel
theorem dL_law_940 : decode cL_law 940 = .ok (.iload 15, 2) := by decide +kernel
theorem dL_law_942 : decode cL_law 942 = .ok (.iload 16, 2) := by decide +kernel
theorem dL_law_944 : decode cL_law 944 = .ok (.iconst 0, 1) := by decide +kernel
theorem dL_law_945 : decode cL_law 945 = .ok (.invokestatic 172, 3) := by decide +kernel
theorem dL_law_948 : decode cL_law 948 = .ok (.istore 17, 2) := by decide +kernel
theorem dL_law_950 : decode cL_law 950 = .ok (.aload_n 1, 1) := by decide +kernel
theorem dL_law_951 : decode cL_law 951 = .ok (.iload 12, 2) := by decide +kernel
theorem dL_law_953 : decode cL_law 953 = .ok (.iload 16, 2) := by decide +kernel
theorem dL_law_955 : decode cL_law 955 = .ok (.aload_n 0, 1) := by decide +kernel
theorem dL_law_956 : decode cL_law 956 = .ok (.iload 10, 2) := by decide +kernel
theorem dL_law_958 : decode cL_law 958 = .ok (.iconst 5, 1) := by decide +kernel
theorem dL_law_959 : decode cL_law 959 = .ok (.iadd, 1) := by decide +kernel
theorem dL_law_960 : decode cL_law 960 = .ok (.sipush 9999, 3) := by decide +kernel
theorem dL_law_963 : decode cL_law 963 = .ok (.invokestatic 146, 3) := by decide +kernel
theorem dL_law_966 : decode cL_law 966 = .ok (.invokestatic 191, 3) := by decide +kernel
theorem dL_law_969 : decode cL_law 969 = .ok (.iconst (-1), 1) := by decide +kernel
theorem dL_law_970 : decode cL_law 970 = .ok (.if_icmp .lt 81, 3) := by decide +kernel
theorem dL_law_973 : decode cL_law 973 = .ok (.aload_n 1, 1) := by decide +kernel
theorem dL_law_974 : decode cL_law 974 = .ok (.iload 12, 2) := by decide +kernel
theorem dL_law_976 : decode cL_law 976 = .ok (.iload 15, 2) := by decide +kernel
theorem dL_law_978 : decode cL_law 978 = .ok (.invokestatic 193, 3) := by decide +kernel
theorem dL_law_981 : decode cL_law 981 = .ok (.ldc 83, 2) := by decide +kernel
theorem dL_law_983 : decode cL_law 983 = .ok (.if_icmp .ne 68, 3) := by decide +kernel
theorem dL_law_986 : decode cL_law 986 = .ok (.aload_n 1, 1) := by decide +kernel
theorem dL_law_987 : decode cL_law 987 = .ok (.bipush 97, 2) := by decide +kernel
theorem dL_law_989 : decode cL_law 989 = .ok (.iload 12, 2) := by decide +kernel
theorem dL_law_991 : decode cL_law 991 = .ok (.iload 15, 2) := by decide +kernel
theorem dL_law_993 : decode cL_law 993 = .ok (.iload 16, 2) := by decide +kernel
theorem dL_law_995 : decode cL_law 995 = .ok (.iconst 1, 1) := by decide +kernel
theorem dL_law_996 : decode cL_law 996 = .ok (.invokestatic 172, 3) := by decide +kernel
theorem dL_law_999 : decode cL_law 999 = .ok (.ifCond .ne 52, 3) := by decide +kernel
theorem dL_law_1002 : decode cL_law 1002 = .ok (.aload_n 1, 1) := by decide +kernel
theorem dL_law_1003 : decode cL_law 1003 = .ok (.iload 12, 2) := by decide +kernel
theorem dL_law_1005 : decode cL_law 1005 = .ok (.iload 15, 2) := by decide +kernel
theorem dL_law_1007 : decode cL_law 1007 = .ok (.invokestatic 193, 3) := by decide +kernel
theorem dL_law_1010 : decode cL_law 1010 = .ok (.aload_n 0, 1) := by decide +kernel
theorem dL_law_1011 : decode cL_law 1011 = .ok (.iload 10, 2) := by decide +kernel
theorem dL_law_1013 : decode cL_law 1013 = .ok (.iconst 5, 1) := by decide +kernel
theorem dL_law_1014 : decode cL_law 1014 = .ok (.iadd, 1) := by decide +kernel
theorem dL_law_1015 : decode cL_law 1015 = .ok (.sipush 9999, 3) := by decide +kernel
theorem dL_law_1018 : decode cL_law 1018 = .ok (.invokestatic 146, 3) := by decide +kernel
theorem dL_law_1021 : decode cL_law 1021 = .ok (.if_icmp .ne 30, 3) := by decide +kernel
theorem dL_law_1024 : decode cL_law 1024 = .ok (.aload_n 1, 1) := by decide +kernel
theorem dL_law_1025 : decode cL_law 1025 = .ok (.bipush 97, 2) := by decide +kernel
theorem dL_law_1027 : decode cL_law 1027 = .ok (.iload 12, 2) := by decide +kernel
theorem dL_law_1029 : decode cL_law 1029 = .ok (.iload 15, 2) := by decide +kernel
theorem dL_law_1031 : decode cL_law 1031 = .ok (.iload 16, 2) := by decide +kernel
theorem dL_law_1033 : decode cL_law 1033 = .ok (.iload 17, 2) := by decide +kernel
theorem dL_law_1035 : decode cL_law 1035 = .ok (.iconst 1, 1) := by decide +kernel
theorem dL_law_1036 : decode cL_law 1036 = .ok (.if_icmp .ne 7, 3) := by decide +kernel
theorem dL_law_1039 : decode cL_law 1039 = .ok (.iconst 1, 1) := by decide +kernel
theorem dL_law_1040 : decode cL_law 1040 = .ok (.goto 4, 3) := by decide +kernel
theorem dL_law_1043 : decode cL_law 1043 = .ok (.iconst 0, 1) := by decide +kernel
theorem dL_law_1044 : decode cL_law 1044 = .ok (.invokestatic 172, 3) := by decide +kernel
theorem dL_law_1047 : decode cL_law 1047 = .ok (.iconst 1, 1) := by decide +kernel
theorem dL_law_1048 : decode cL_law 1048 = .ok (.if_icmp .eq 5, 3) := by decide +kernel
theorem dL_law_1051 : decode cL_law 1051 = .ok (.iconst 0, 1) := by decide +kernel
theorem dL_law_1052 : decode cL_law 1052 = .ok (.ireturn, 1) := by decide +kernel
theorem dL_law_1053 : decode cL_law 1053 = .ok (.goto 177, 3) := by decide +kernel
theorem dL_law_1056 : decode cL_law 1056 = .ok (.iconst 1, 1) := by decide +kernel
theorem dL_law_1057 : decode cL_law 1057 = .ok (.aload_n 0, 1) := by decide +kernel
theorem dL_law_1058 : decode cL_law 1058 = .ok (.iload 10, 2) := by decide +kernel
theorem dL_law_1060 : decode cL_law 1060 = .ok (.iconst 3, 1) := by decide +kernel
theorem dL_law_1061 : decode cL_law 1061 = .ok (.iadd, 1) := by decide +kernel
theorem dL_law_1062 : decode cL_law 1062 = .ok (.iconst 3, 1) := by decide +kernel
theorem dL_law_1063 : decode cL_law 1063 = .ok (.invokestatic 146, 3) := by decide +kernel
theorem dL_law_1066 : decode cL_law 1066 = .ok (.iadd, 1) := by decide +kernel
theorem dL_law_1067 : decode cL_law 1067 = .ok (.istore 15, 2) := by decide +kernel
theorem dL_law_1069 : decode cL_law 1069 = .ok (.aload_n 1, 1) := by decide +kernel
theorem dL_law_1070 : decode cL_law 1070 = .ok (.iload 12, 2) := by decide +kernel
theorem dL_law_1072 : decode cL_law 1072 = .ok (.iconst 1, 1) := by decide +kernel
theorem dL_law_1073 : decode cL_law 1073 = .ok (.aload_n 0, 1) := by decide +kernel
theorem dL_law_1074 : decode cL_law 1074 = .ok (.iload 10, 2) := by decide +kernel
theorem dL_law_1076 : decode cL_law 1076 = .ok (.iconst 4, 1) := by decide +kernel
theorem dL_law_1077 : decode cL_law 1077 = .ok (.iadd, 1) := by decide +kernel
theorem dL_law_1078 : decode cL_law 1078 = .ok (.bipush 12, 2) := by decide +kernel
theorem dL_law_1080 : decode cL_law 1080 = .ok (.invokestatic 146, 3) := by decide +kernel
theorem dL_law_1083 : decode cL_law 1083 = .ok (.aload_n 0, 1) := by decide +kernel
theorem dL_law_1084 : decode cL_law 1084 = .ok (.iload 10, 2) := by decide +kernel
theorem dL_law_1086 : decode cL_law 1086 = .ok (.iconst 5, 1) := by decide +kernel
theorem dL_law_1087 : decode cL_law 1087 = .ok (.iadd, 1) := by decide +kernel
theorem dL_law_1088 : decode cL_law 1088 = .ok (.bipush 8, 2) := by decide +kernel
theorem dL_law_1090 : decode cL_law 1090 = .ok (.invokestatic 146, 3) := by decide +kernel
theorem dL_law_1093 : decode cL_law 1093 = .ok (.invokestatic 189, 3) := by decide +kernel
theorem dL_law_1096 : decode cL_law 1096 = .ok (.istore 16, 2) := by decide +kernel
theorem dL_law_1098 : decode cL_law 1098 = .ok (.aload_n 1, 1) := by decide +kernel
theorem dL_law_1099 : decode cL_law 1099 = .ok (.iload 12, 2) := by decide +kernel
theorem dL_law_1101 : decode cL_law 1101 = .ok (.invokestatic 181, 3) := by decide +kernel
theorem dL_law_1104 : decode cL_law 1104 = .ok (.istore 17, 2) := by decide +kernel
theorem dL_law_1106 : decode cL_law 1106 = .ok (.aload_n 1, 1) := by decide +kernel
theorem dL_law_1107 : decode cL_law 1107 = .ok (.iload 13, 2) := by decide +kernel
theorem dL_law_1109 : decode cL_law 1109 = .ok (.invokestatic 141, 3) := by decide +kernel
theorem dL_law_1112 : decode cL_law 1112 = .ok (.istore 18, 2) := by decide +kernel
theorem dL_law_1114 : decode cL_law 1114 = .ok (.aload_n 1, 1) := by decide +kernel
theorem dL_law_1115 : decode cL_law 1115 = .ok (.iload 15, 2) := by decide +kernel
theorem dL_law_1117 : decode cL_law 1117 = .ok (.invokestatic 195, 3) := by decide +kernel
theorem dL_law_1120 : decode cL_law 1120 = .ok (.istore 19, 2) := by decide +kernel
theorem dL_law_1122 : decode cL_law 1122 = .ok (.iload 19, 2) := by decide +kernel
theorem dL_law_1124 : decode cL_law 1124 = .ok (.ifCond .lt 50, 3) := by decide +kernel
theorem dL_law_1127 : decode cL_law 1127 = .ok (.iload 19, 2) := by decide +kernel
theorem dL_law_1129 : decode cL_law 1129 = .ok (.bipush 24, 2) := by decide +kernel
theorem dL_law_1131 : decode cL_law 1131 = .ok (.iload 15, 2) := by decide +kernel
theorem dL_law_1133 : decode cL_law 1133 = .ok (.imul, 1) := by decide +kernel
theorem dL_law_1134 : decode cL_law 1134 = .ok (.if_icmp .gt 40, 3) := by decide +kernel
theorem dL_law_1137 : decode cL_law 1137 = .ok (.iload 16, 2) := by decide +kernel
theorem dL_law_1139 : decode cL_law 1139 = .ok (.ifCond .lt 37, 3) := by decide +kernel
theorem dL_law_1142 : decode cL_law 1142 = .ok (.aload_n 1, 1) := by decide +kernel
theorem dL_law_1143 : decode cL_law 1143 = .ok (.iload 12, 2) := by decide +kernel
theorem dL_law_1145 : decode cL_law 1145 = .ok (.iconst 1, 1) := by decide +kernel
theorem dL_law_1146 : decode cL_law 1146 = .ok (.aload_n 0, 1) := by decide +kernel
theorem dL_law_1147 : decode cL_law 1147 = .ok (.iload 10, 2) := by decide +kernel
theorem dL_law_1149 : decode cL_law 1149 = .ok (.iconst 4, 1) := by decide +kernel
theorem dL_law_1150 : decode cL_law 1150 = .ok (.iadd, 1) := by decide +kernel
theorem dL_law_1151 : decode cL_law 1151 = .ok (.bipush 12, 2) := by decide +kernel
theorem dL_law_1153 : decode cL_law 1153 = .ok (.invokestatic 146, 3) := by decide +kernel
theorem dL_law_1156 : decode cL_law 1156 = .ok (.aload_n 0, 1) := by decide +kernel
theorem dL_law_1157 : decode cL_law 1157 = .ok (.iload 10, 2) := by decide +kernel
theorem dL_law_1159 : decode cL_law 1159 = .ok (.iconst 5, 1) := by decide +kernel
theorem dL_law_1160 : decode cL_law 1160 = .ok (.iadd, 1) := by decide +kernel
theorem dL_law_1161 : decode cL_law 1161 = .ok (.bipush 8, 2) := by decide +kernel
theorem dL_law_1163 : decode cL_law 1163 = .ok (.invokestatic 146, 3) := by decide +kernel
theorem dL_law_1166 : decode cL_law 1166 = .ok (.invokestatic 189, 3) := by decide +kernel
theorem dL_law_1169 : decode cL_law 1169 = .ok (.iload 16, 2) := by decide +kernel
theorem dL_law_1171 : decode cL_law 1171 = .ok (.if_icmp .eq 5, 3) := by decide +kernel
theorem dL_law_1174 : decode cL_law 1174 = .ok (.iconst 0, 1) := by decide +kernel
theorem dL_law_1175 : decode cL_law 1175 = .ok (.ireturn, 1) := by decide +kernel
theorem dL_law_1176 : decode cL_law 1176 = .ok (.lload 7, 2) := by decide +kernel
theorem dL_law_1178 : decode cL_law 1178 = .ok (.iload 19, 2) := by decide +kernel
theorem dL_law_1180 : decode cL_law 1180 = .ok (.i2l, 1) := by decide +kernel
theorem dL_law_1181 : decode cL_law 1181 = .ok (.ladd, 1) := by decide +kernel
theorem dL_law_1182 : decode cL_law 1182 = .ok (.lstore 7, 2) := by decide +kernel
theorem dL_law_1184 : decode cL_law 1184 = .ok (.iload 19, 2) := by decide +kernel
theorem dL_law_1186 : decode cL_law 1186 = .ok (.ifCond .ne 8, 3) := by decide +kernel
theorem dL_law_1189 : decode cL_law 1189 = .ok (.iload 18, 2) := by decide +kernel
theorem dL_law_1191 : decode cL_law 1191 = .ok (.ifCond .gt 13, 3) := by decide +kernel
theorem dL_law_1194 : decode cL_law 1194 = .ok (.aload_n 1, 1) := by decide +kernel
theorem dL_law_1195 : decode cL_law 1195 = .ok (.invokevirtual 197, 3) := by decide +kernel
theorem dL_law_1198 : decode cL_law 1198 = .ok (.lload 7, 2) := by decide +kernel
theorem dL_law_1200 : decode cL_law 1200 = .ok (.lcmp, 1) := by decide +kernel
theorem dL_law_1201 : decode cL_law 1201 = .ok (.ifCond .eq 5, 3) := by decide +kernel
theorem dL_law_1204 : decode cL_law 1204 = .ok (.iconst 0, 1) := by decide +kernel
theorem dL_law_1205 : decode cL_law 1205 = .ok (.ireturn, 1) := by decide +kernel
theorem dL_law_1206 : decode cL_law 1206 = .ok (.iload 17, 2) := by decide +kernel
theorem dL_law_1208 : decode cL_law 1208 = .ok (.ifCond .lt 22, 3) := by decide +kernel
theorem dL_law_1211 : decode cL_law 1211 = .ok (.iload 17, 2) := by decide +kernel
theorem dL_law_1213 : decode cL_law 1213 = .ok (.iconst 2, 1) := by decide +kernel
theorem dL_law_1214 : decode cL_law 1214 = .ok (.if_icmp .gt 16, 3) := by decide +kernel
theorem dL_law_1217 : decode cL_law 1217 = .ok (.aload_n 1, 1) := by decide +kernel
theorem dL_law_1218 : decode cL_law 1218 = .ok (.iload 12, 2) := by decide +kernel
theorem dL_law_1220 : decode cL_law 1220 = .ok (.invokestatic 181, 3) := by decide +kernel
theorem dL_law_1223 : decode cL_law 1223 = .ok (.ldc 21, 2) := by decide +kernel
theorem dL_law_1225 : decode cL_law 1225 = .ok (.if_icmp .eq 5, 3) := by decide +kernel
theorem dL_law_1228 : decode cL_law 1228 = .ok (.iconst 0, 1) := by decide +kernel
theorem dL_law_1229 : decode cL_law 1229 = .ok (.ireturn, 1) := by decide +kernel
theorem dL_law_1230 : decode cL_law 1230 = .ok (.aload_n 1, 1) := by decide +kernel
theorem dL_law_1231 : decode cL_law 1231 = .ok (.iload 13, 2) := by decide +kernel
theorem dL_law_1233 : decode cL_law 1233 = .ok (.aload 4, 2) := by decide +kernel
theorem dL_law_1235 : decode cL_law 1235 = .ok (.iload 13, 2) := by decide +kernel
theorem dL_law_1237 : decode cL_law 1237 = .ok (.iaload, 1) := by decide +kernel
theorem dL_law_1238 : decode cL_law 1238 = .ok (.invokestatic 201, 3) := by decide +kernel
theorem dL_law_1241 : decode cL_law 1241 = .ok (.ifCond .ne 5, 3) := by decide +kernel
theorem dL_law_1244 : decode cL_law 1244 = .ok (.iconst 0, 1) := by decide +kernel
theorem dL_law_1245 : decode cL_law 1245 = .ok (.ireturn, 1) := by decide +kernel
theorem dL_law_1246 : decode cL_law 1246 = .ok (.aload_n 0, 1) := by decide +kernel
theorem dL_law_1247 : decode cL_law 1247 = .ok (.iload 10, 2) := by decide +kernel
theorem dL_law_1249 : decode cL_law 1249 = .ok (.iconst 4, 1) := by decide +kernel
theorem dL_law_1250 : decode cL_law 1250 = .ok (.iadd, 1) := by decide +kernel
theorem dL_law_1251 : decode cL_law 1251 = .ok (.bipush 12, 2) := by decide +kernel
theorem dL_law_1253 : decode cL_law 1253 = .ok (.invokestatic 146, 3) := by decide +kernel
theorem dL_law_1256 : decode cL_law 1256 = .ok (.istore 15, 2) := by decide +kernel
theorem dL_law_1258 : decode cL_law 1258 = .ok (.aload_n 0, 1) := by decide +kernel
theorem dL_law_1259 : decode cL_law 1259 = .ok (.iload 10, 2) := by decide +kernel
theorem dL_law_1261 : decode cL_law 1261 = .ok (.iconst 5, 1) := by decide +kernel
theorem dL_law_1262 : decode cL_law 1262 = .ok (.iadd, 1) := by decide +kernel
theorem dL_law_1263 : decode cL_law 1263 = .ok (.bipush 8, 2) := by decide +kernel
theorem dL_law_1265 : decode cL_law 1265 = .ok (.invokestatic 146, 3) := by decide +kernel
theorem dL_law_1268 : decode cL_law 1268 = .ok (.istore 16, 2) := by decide +kernel
theorem dL_law_1270 : decode cL_law 1270 = .ok (.aload 6, 2) := by decide +kernel
theorem dL_law_1272 : decode cL_law 1272 = .ok (.aload_n 1, 1) := by decide +kernel
theorem dL_law_1273 : decode cL_law 1273 = .ok (.iload 13, 2) := by decide +kernel
theorem dL_law_1275 : decode cL_law 1275 = .ok (.iload 15, 2) := by decide +kernel
theorem dL_law_1277 : decode cL_law 1277 = .ok (.iload 16, 2) := by decide +kernel
theorem dL_law_1279 : decode cL_law 1279 = .ok (.invokestatic 136, 3) := by decide +kernel
theorem dL_law_1282 : decode cL_law 1282 = .ok (.baload, 1) := by decide +kernel
theorem dL_law_1283 : decode cL_law 1283 = .ok (.ifCond .eq 39, 3) := by decide +kernel
theorem dL_law_1286 : decode cL_law 1286 = .ok (.aload 6, 2) := by decide +kernel
theorem dL_law_1288 : decode cL_law 1288 = .ok (.aload_n 1, 1) := by decide +kernel
theorem dL_law_1289 : decode cL_law 1289 = .ok (.iload 13, 2) := by decide +kernel
theorem dL_law_1291 : decode cL_law 1291 = .ok (.iload 15, 2) := by decide +kernel
theorem dL_law_1293 : decode cL_law 1293 = .ok (.iload 16, 2) := by decide +kernel
theorem dL_law_1295 : decode cL_law 1295 = .ok (.invokestatic 205, 3) := by decide +kernel
theorem dL_law_1298 : decode cL_law 1298 = .ok (.baload, 1) := by decide +kernel
theorem dL_law_1299 : decode cL_law 1299 = .ok (.ifCond .eq 23, 3) := by decide +kernel
theorem dL_law_1302 : decode cL_law 1302 = .ok (.aload_n 1, 1) := by decide +kernel
theorem dL_law_1303 : decode cL_law 1303 = .ok (.iload 13, 2) := by decide +kernel
theorem dL_law_1305 : decode cL_law 1305 = .ok (.aload_n 0, 1) := by decide +kernel
theorem dL_law_1306 : decode cL_law 1306 = .ok (.iload 10, 2) := by decide +kernel
theorem dL_law_1308 : decode cL_law 1308 = .ok (.bipush 6, 2) := by decide +kernel
theorem dL_law_1310 : decode cL_law 1310 = .ok (.iadd, 1) := by decide +kernel
theorem dL_law_1311 : decode cL_law 1311 = .ok (.bipush 10, 2) := by decide +kernel
theorem dL_law_1313 : decode cL_law 1313 = .ok (.invokestatic 146, 3) := by decide +kernel
theorem dL_law_1316 : decode cL_law 1316 = .ok (.invokestatic 207, 3) := by decide +kernel
theorem dL_law_1319 : decode cL_law 1319 = .ok (.ifCond .ge 5, 3) := by decide +kernel
theorem dL_law_1322 : decode cL_law 1322 = .ok (.iconst 0, 1) := by decide +kernel
theorem dL_law_1323 : decode cL_law 1323 = .ok (.ireturn, 1) := by decide +kernel
theorem dL_law_1324 : decode cL_law 1324 = .ok (.iinc 9 1, 3) := by decide +kernel
theorem dL_law_1327 : decode cL_law 1327 = .ok (.goto (-1190), 3) := by decide +kernel
theorem dL_law_1330 : decode cL_law 1330 = .ok (.iconst 0, 1) := by decide +kernel
theorem dL_law_1331 : decode cL_law 1331 = .ok (.istore 9, 2) := by decide +kernel
theorem dL_law_1333 : decode cL_law 1333 = .ok (.iload 9, 2) := by decide +kernel
theorem dL_law_1335 : decode cL_law 1335 = .ok (.bipush 6, 2) := by decide +kernel
theorem dL_law_1337 : decode cL_law 1337 = .ok (.if_icmp .ge 20, 3) := by decide +kernel
theorem dL_law_1340 : decode cL_law 1340 = .ok (.aload_n 1, 1) := by decide +kernel
theorem dL_law_1341 : decode cL_law 1341 = .ok (.bipush 20, 2) := by decide +kernel
theorem dL_law_1343 : decode cL_law 1343 = .ok (.invokestatic 195, 3) := by decide +kernel
theorem dL_law_1346 : decode cL_law 1346 = .ok (.ifCond .ge 5, 3) := by decide +kernel
theorem dL_law_1349 : decode cL_law 1349 = .ok (.iconst 0, 1) := by decide +kernel
theorem dL_law_1350 : decode cL_law 1350 = .ok (.ireturn, 1) := by decide +kernel
theorem dL_law_1351 : decode cL_law 1351 = .ok (.iinc 9 1, 3) := by decide +kernel
theorem dL_law_1354 : decode cL_law 1354 = .ok (.goto (-21), 3) := by decide +kernel
theorem dL_law_1357 : decode cL_law 1357 = .ok (.iconst 0, 1) := by decide +kernel
theorem dL_law_1358 : decode cL_law 1358 = .ok (.istore 9, 2) := by decide +kernel
theorem dL_law_1360 : decode cL_law 1360 = .ok (.iload 9, 2) := by decide +kernel
theorem dL_law_1362 : decode cL_law 1362 = .ok (.iload_n 3, 1) := by decide +kernel
theorem dL_law_1363 : decode cL_law 1363 = .ok (.if_icmp .ge 29, 3) := by decide +kernel
theorem dL_law_1366 : decode cL_law 1366 = .ok (.aload_n 1, 1) := by decide +kernel
theorem dL_law_1367 : decode cL_law 1367 = .ok (.iload 9, 2) := by decide +kernel
theorem dL_law_1369 : decode cL_law 1369 = .ok (.invokestatic 141, 3) := by decide +kernel
theorem dL_law_1372 : decode cL_law 1372 = .ok (.ifCond .ne 12, 3) := by decide +kernel
theorem dL_law_1375 : decode cL_law 1375 = .ok (.aload_n 1, 1) := by decide +kernel
theorem dL_law_1376 : decode cL_law 1376 = .ok (.iload 9, 2) := by decide +kernel
theorem dL_law_1378 : decode cL_law 1378 = .ok (.invokestatic 176, 3) := by decide +kernel
theorem dL_law_1381 : decode cL_law 1381 = .ok (.ifCond .eq 5, 3) := by decide +kernel
theorem dL_law_1384 : decode cL_law 1384 = .ok (.iconst 0, 1) := by decide +kernel
theorem dL_law_1385 : decode cL_law 1385 = .ok (.ireturn, 1) := by decide +kernel
theorem dL_law_1386 : decode cL_law 1386 = .ok (.iinc 9 1, 3) := by decide +kernel
theorem dL_law_1389 : decode cL_law 1389 = .ok (.goto (-29), 3) := by decide +kernel
theorem dL_law_1392 : decode cL_law 1392 = .ok (.iconst 0, 1) := by decide +kernel
theorem dL_law_1393 : decode cL_law 1393 = .ok (.istore 9, 2) := by decide +kernel
theorem dL_law_1395 : decode cL_law 1395 = .ok (.iload 9, 2) := by decide +kernel
theorem dL_law_1397 : decode cL_law 1397 = .ok (.iload_n 2, 1) := by decide +kernel
theorem dL_law_1398 : decode cL_law 1398 = .ok (.if_icmp .ge 22, 3) := by decide +kernel
theorem dL_law_1401 : decode cL_law 1401 = .ok (.aload_n 1, 1) := by decide +kernel
theorem dL_law_1402 : decode cL_law 1402 = .ok (.iload 9, 2) := by decide +kernel
theorem dL_law_1404 : decode cL_law 1404 = .ok (.invokestatic 181, 3) := by decide +kernel
theorem dL_law_1407 : decode cL_law 1407 = .ok (.ldc 21, 2) := by decide +kernel
theorem dL_law_1409 : decode cL_law 1409 = .ok (.if_icmp .eq 5, 3) := by decide +kernel
theorem dL_law_1412 : decode cL_law 1412 = .ok (.iconst 0, 1) := by decide +kernel
theorem dL_law_1413 : decode cL_law 1413 = .ok (.ireturn, 1) := by decide +kernel
theorem dL_law_1414 : decode cL_law 1414 = .ok (.iinc 9 1, 3) := by decide +kernel
theorem dL_law_1417 : decode cL_law 1417 = .ok (.goto (-22), 3) := by decide +kernel
theorem dL_law_1420 : decode cL_law 1420 = .ok (.aload_n 1, 1) := by decide +kernel
theorem dL_law_1421 : decode cL_law 1421 = .ok (.invokevirtual 209, 3) := by decide +kernel
theorem dL_law_1424 : decode cL_law 1424 = .ok (.ifCond .eq 29, 3) := by decide +kernel
theorem dL_law_1427 : decode cL_law 1427 = .ok (.aload_n 1, 1) := by decide +kernel
theorem dL_law_1428 : decode cL_law 1428 = .ok (.iload_n 2, 1) := by decide +kernel
theorem dL_law_1429 : decode cL_law 1429 = .ok (.iconst 0, 1) := by decide +kernel
theorem dL_law_1430 : decode cL_law 1430 = .ok (.iconst 0, 1) := by decide +kernel
theorem dL_law_1431 : decode cL_law 1431 = .ok (.invokestatic 139, 3) := by decide +kernel
theorem dL_law_1434 : decode cL_law 1434 = .ok (.ldc 28, 2) := by decide +kernel
theorem dL_law_1436 : decode cL_law 1436 = .ok (.if_icmp .ne 17, 3) := by decide +kernel
theorem dL_law_1439 : decode cL_law 1439 = .ok (.aload_n 1, 1) := by decide +kernel
theorem dL_law_1440 : decode cL_law 1440 = .ok (.iload_n 3, 1) := by decide +kernel
theorem dL_law_1441 : decode cL_law 1441 = .ok (.invokestatic 143, 3) := by decide +kernel
theorem dL_law_1444 : decode cL_law 1444 = .ok (.ldc 28, 2) := by decide +kernel
theorem dL_law_1446 : decode cL_law 1446 = .ok (.if_icmp .ne 7, 3) := by decide +kernel
theorem dL_law_1449 : decode cL_law 1449 = .ok (.iconst 1, 1) := by decide +kernel
theorem dL_law_1450 : decode cL_law 1450 = .ok (.goto 4, 3) := by decide +kernel
theorem dL_law_1453 : decode cL_law 1453 = .ok (.iconst 0, 1) := by decide +kernel
theorem dL_law_1454 : decode cL_law 1454 = .ok (.ireturn, 1) := by decide +kernel
end
section
/-! THE ABSTRACT WORLD: one heap of names; ints are whole numbers; the machine's addresses are hidden by a naming ad. -/
abbrev zV : Type := Int ⊕ (Option Nat) ⊕ Int ⊕ UInt32 ⊕ UInt64 ⊕ Bool
abbrev zI (z : Int) : zV := .inl z
abbrev zR (r : Option Nat) : zV := .inr (.inl r)
abbrev zL (z : Int) : zV := .inr (.inr (.inl z))
abbrev zF (u : UInt32) : zV := .inr (.inr (.inr (.inl u)))
abbrev zD (u : UInt64) : zV := .inr (.inr (.inr (.inr (.inl u))))
abbrev zX : zV := .inr (.inr (.inr (.inr (.inr false))))
/-- the law's script, at ad 1 -/
abbrev zY : zV := .inr (.inr (.inr (.inr (.inr true))))
/-- the machine's value -/
def zc (ad : Nat → Nat) : zV → Value
  | .inl z => .int (Int32.ofInt z)
  | .inr (.inl r) => va_rf (r.map ad)
  | .inr (.inr (.inl z)) => .long (Int64.ofInt z)
  | .inr (.inr (.inr (.inl u))) => .float u
  | .inr (.inr (.inr (.inr (.inl u)))) => .double u
  | .inr (.inr (.inr (.inr (.inr false)))) => .null
  | .inr (.inr (.inr (.inr (.inr true)))) => .ref (ad 1)
theorem zc_I (ad : Nat → Nat) (z : Int) : zc ad (zI z) = .int (Int32.ofInt z) := rfl
theorem zc_R (ad : Nat → Nat) (r : Option Nat) : zc ad (zR r) = va_rf (r.map ad) := rfl
theorem zc_a (ad : Nat → Nat) (n : Nat) : zc ad (zR (some n)) = .ref (ad n) := rfl
theorem zc_N (ad : Nat → Nat) : zc ad (zR none) = .null := rfl
theorem zc_L (ad : Nat → Nat) (z : Int) : zc ad (zL z) = .long (Int64.ofInt z) := rfl
/-- the heap: kinds (0 none; 1 + class; 100 + row), lengths, int fields, int elements, reference fields, reference elements, long fields, long elements, double elements -/
abbrev zH : Type := (Nat → Nat) × (Nat → Int) × (Nat → Nat → Int) × (Nat → Int → Int) × (Nat → Nat → Option Nat) × (Nat → Int → Option Nat) × (Nat → Nat → Int) × (Nat → Int → Int) × (Nat → Int → UInt64)
def zK (h : zH) : Nat → Nat := h.1
def zN (h : zH) : Nat → Int := h.2.1
def zf (h : zH) : Nat → Nat → Int := h.2.2.1
def za (h : zH) : Nat → Int → Int := h.2.2.2.1
def zr (h : zH) : Nat → Nat → Option Nat := h.2.2.2.2.1
def zq (h : zH) : Nat → Int → Option Nat := h.2.2.2.2.2.1
def zl (h : zH) : Nat → Nat → Int := h.2.2.2.2.2.2.1
def zm (h : zH) : Nat → Int → Int := h.2.2.2.2.2.2.2.1
def zd (h : zH) : Nat → Int → UInt64 := h.2.2.2.2.2.2.2.2
def z2 {α : Type} (f : Nat → Nat → α) (i n : Nat) (v : α) : Nat → Nat → α := fun j m => if j = i ∧ m = n then v else f j m
def z3 {α : Type} (f : Nat → Int → α) (n : Nat) (i : Int) (v : α) : Nat → Int → α := fun m j => if m = n ∧ j = i then v else f m j
def sf (h : zH) (i n : Nat) (v : Int) : zH := (h.1, h.2.1, z2 h.2.2.1 i n v, h.2.2.2)
def sa (h : zH) (n : Nat) (i : Int) (v : Int) : zH := (h.1, h.2.1, h.2.2.1, z3 h.2.2.2.1 n i v, h.2.2.2.2)
def sr (h : zH) (i n : Nat) (v : Option Nat) : zH := (h.1, h.2.1, h.2.2.1, h.2.2.2.1, z2 h.2.2.2.2.1 i n v, h.2.2.2.2.2)
def sq (h : zH) (n : Nat) (i : Int) (v : Option Nat) : zH := (h.1, h.2.1, h.2.2.1, h.2.2.2.1, h.2.2.2.2.1, z3 h.2.2.2.2.2.1 n i v, h.2.2.2.2.2.2)
def sl (h : zH) (i n : Nat) (v : Int) : zH := (h.1, h.2.1, h.2.2.1, h.2.2.2.1, h.2.2.2.2.1, h.2.2.2.2.2.1, z2 h.2.2.2.2.2.2.1 i n v, h.2.2.2.2.2.2.2)
def sm (h : zH) (n : Nat) (i : Int) (v : Int) : zH := (h.1, h.2.1, h.2.2.1, h.2.2.2.1, h.2.2.2.2.1, h.2.2.2.2.2.1, h.2.2.2.2.2.2.1, z3 h.2.2.2.2.2.2.2.1 n i v, h.2.2.2.2.2.2.2.2)
def sd (h : zH) (n : Nat) (i : Int) (v : UInt64) : zH := (h.1, h.2.1, h.2.2.1, h.2.2.2.1, h.2.2.2.2.1, h.2.2.2.2.2.1, h.2.2.2.2.2.2.1, h.2.2.2.2.2.2.2.1, z3 h.2.2.2.2.2.2.2.2 n i v)
/-- a row's whole contents anew (copies) -/
def saw (h : zH) (n : Nat) (g : Int → Int) : zH := (h.1, h.2.1, h.2.2.1, (fun m j => if m = n then g j else h.2.2.2.1 m j), h.2.2.2.2)
def sqw (h : zH) (n : Nat) (g : Int → Option Nat) : zH := (h.1, h.2.1, h.2.2.1, h.2.2.2.1, h.2.2.2.2.1, (fun m j => if m = n then g j else h.2.2.2.2.2.1 m j), h.2.2.2.2.2.2)
/-- a new object or row under a name that was never used -/
def nw (h : zH) (n kd : Nat) (len : Int) : zH := ((fun m => if m = n then kd else h.1 m), (fun m => if m = n then len else h.2.1 m), (fun j m => if m = n then 0 else h.2.2.1 j m), (fun m j => if m = n then 0 else h.2.2.2.1 m j), (fun j m => if m = n then none else h.2.2.2.2.1 j m), (fun m j => if m = n then none else h.2.2.2.2.2.1 m j), (fun j m => if m = n then 0 else h.2.2.2.2.2.2.1 j m), (fun m j => if m = n then 0 else h.2.2.2.2.2.2.2.1 m j), (fun m j => if m = n then 0 else h.2.2.2.2.2.2.2.2 m j))
abbrev zCl : List vw_C := [(RJx4a65c, TJx4a65c, 3), (RX0, TX0, 11), (RX1, TX1, 7), (RX2, TX2, 3), (RX3, TX3, 4), (RX4, TX4, 7), (RX5, TX5, 9), (RX6, TX6, 4), (RX7, TX7, 10), (RX8, TX8, 4)]
/-- the types of the fields -/
def zTy (ci : Nat) : Nat → FieldType := match ci with
  | 0 => tyJx4a65c
  | 1 => tyX0
  | 2 => tyX1
  | 3 => tyX2
  | 4 => tyX3
  | 5 => tyX4
  | 6 => tyX5
  | 7 => tyX6
  | 8 => tyX7
  | _ => tyX8
def zFn (ci : Nat) : Nat := match ci with
  | 0 => 3
  | 1 => 11
  | 2 => 7
  | 3 => 3
  | 4 => 4
  | 5 => 7
  | 6 => 9
  | 7 => 4
  | 8 => 10
  | _ => 4
/-- which rows there are: the types of their elements -/
def zAt (t : Nat) : FieldType := match t with
  | 0 => .int
  | 1 => .boolean
  | 2 => .long
  | 3 => .double
  | 4 => .object "Remotepane$Client"
  | 5 => .object "Remotepane$Session"
  | 6 => .object "Remotepane$Window"
  | _ => .object "java/lang/Object"
def zIsR (ty : FieldType) : Bool := match ty with
  | .object _ => true
  | .array _ => true
  | _ => false
/-- what a field holds -/
def zFv (ad : Nat → Nat) (h : zH) (ty : FieldType) (i n : Nat) : Value := match ty with
  | .object _ => va_rf ((zr h i n).map ad)
  | .array _ => va_rf ((zr h i n).map ad)
  | .long => .long (Int64.ofInt (zl h i n))
  | _ => .int (Int32.ofInt (zf h i n))
def zOb (ad : Nat → Nat) (h : zH) (ci n : Nat) : List Value := (List.range (zFn ci)).map (fun k => zFv ad h (zTy ci k) (100 * ci + k) n)
def zRw (ad : Nat → Nat) (h : zH) (t n : Nat) : vp_A := match t with
  | 0 => ((zN h n).toNat, .inl (fun j => Int32.ofInt (za h n (j : Int))))
  | 1 => ((zN h n).toNat, .inl (fun j => Int32.ofInt (za h n (j : Int))))
  | 2 => ((zN h n).toNat, .inr (.inl (fun j => Int64.ofInt (zm h n (j : Int)))))
  | 3 => ((zN h n).toNat, .inr (.inr (.inr (.inl (fun j => zd h n (j : Int))))))
  | _ => ((zN h n).toNat, .inr (.inr (.inr (.inr (fun j => (zq h n (j : Int)).map ad)))))
def zEn (dA : Nat → ClassId) (ad : Nat → Nat) (h : zH) (n : Nat) : va_E := if zK h n < 100 then .inr (zK h n - 1, zOb ad h (zK h n - 1) n) else .inl (dA (zK h n - 100), zRw ad h (zK h n - 100) n)
/-- a value's name is in use -/
def zok (h : zH) (r : Option Nat) : Prop := ∀ n, r = some n → n = 0 ∨ zK h n ≠ 0
def zokv (h : zH) : zV → Prop
  | .inr (.inl r) => zok h r
  | _ => True
abbrev zin (z : Int) : Prop := -2147483648 ≤ z ∧ z < 2147483648
/-- the heap is closed and in range -/
def zG (h : zH) : Prop := (∀ i n, zin (zf h i n)) ∧ (∀ n j, zin (za h n j)) ∧ (∀ i n, zok h (zr h i n)) ∧ (∀ n j, zok h (zq h n j)) ∧ (∀ n, 0 ≤ zN h n ∧ zN h n < 2147483648) ∧ zK h 0 = 0 ∧ (∀ n, zK h n ≠ 0 → zK h n < 11 ∨ (100 ≤ zK h n ∧ zK h n < 108)) ∧ (∀ n j, zK h n = 101 → za h n j = 0 ∨ za h n j = 1)
def zW (dA : Nat → ClassId) (ad : Nat → Nat) (h : zH) (L : List Nat) : va_W := L.map (fun n => (ad n, zEn dA ad h n))
/-- the machine's heap H holds h -/
def zP (s : State) (D : va_G) (dA : Nat → ClassId) (A : Nat → Prop) (ad : Nat → Nat) (h : zH) (H : Heap) : Prop := zG h ∧ ∃ (L : List Nat) (tys : List (ClassId × FieldType)), va_K D zCl tys s ∧ (∀ n, n ∈ L ↔ zK h n ≠ 0) ∧ (∀ n ∈ L, 100 ≤ zK h n → (dA (zK h n - 100), zAt (zK h n - 100)) ∈ tys) ∧ va_P D zCl (zW dA ad h L) H ∧ va_D A (zW dA ad h L)
/-- a method: name, code, locals, type, room, handlers, the script that it holds -/
abbrev zM : Type := MethodName × ByteArray × Nat × Option FieldType × Room × List (Nat × Nat × Nat × Nat) × Option (Nat × (Nat → Int32))
abbrev zMy (Y : zM) : MethodName := Y.1
abbrev zMc (Y : zM) : ByteArray := Y.2.1
abbrev zMn (Y : zM) : Nat := Y.2.2.1
abbrev zMt (Y : zM) : Option FieldType := Y.2.2.2.1
abbrev zMr (Y : zM) : Room := Y.2.2.2.2.1
abbrev zMh (Y : zM) : List (Nat × Nat × Nat × Nat) := Y.2.2.2.2.2.1
abbrev zMs (Y : zM) : Option (Nat × (Nat → Int32)) := Y.2.2.2.2.2.2
def zT : List Cond := lw_tbl.filter goodWord
def zWs (Y : zM) : List Cond := Cond.code (zMy Y) (zMc Y) (zMn Y) (zMt Y) :: zT
def zWh (Y : zM) : List Cond := Cond.codeWith (zMy Y) (zMc Y) (zMn Y) (zMt Y) (zMh Y) :: zT
/-- how a method ends: an answer, or a throw by its class's name -/
abbrev zO : Type := (Option zV) ⊕ String
def zTK (U : State) (dA : Nat → ClassId) : Prop := ∀ t c, U.vm.findClass ("[" ++ (zAt t).toString) = some c → dA t = c
/-- the law's own text: its object a, its bytes at b; String's own static, and Preconditions' -/
def zFs (a b : Nat) (A : Nat → Prop) (U : State) (H : Heap) : Prop := va_O "java/lang/String" a A U H ∧ va_OF "java/lang/String" "coder" "B" (.int 0) a A U H ∧ va_OF "java/lang/String" "value" "[B" (.ref b) a A U H ∧ va_T .byte b 4 (fun j => .int (([99, 114, 115, 109] : List Int32).getD j 0)) A U H ∧ va_Z "java/lang/String" "COMPACT_STRINGS" "Z" (.int 1) A U H ∧ va_Zq "jdk/internal/util/Preconditions" "SIOOBE_FORMATTER" "Ljava/util/function/BiFunction;" A U H
def zCr (A : Nat → Prop) (U : State) (H : Heap) : Prop := ∃ a b : Nat, vk_R RL 165 "crsm" a U ∧ zFs a b A U H
/-- the statics that are read: Throwable's two, ArrayList's empty row at e0 -/
def zS (A : Nat → Prop) (e0 : Nat) (U : State) (H : Heap) : Prop := vx_Zq Bundle.tN "UNASSIGNED_STACK" Bundle.steD A U H ∧ vx_Zq Bundle.tN "SUPPRESSED_SENTINEL" Bundle.listD A U H ∧ va_Z RJx4a65c "DEFAULTCAPACITY_EMPTY_ELEMENTDATA" "[Ljava/lang/Object;" (.ref e0) A U H ∧ va_T (.object "java/lang/Object") e0 0 (fun _ => .null) A U H ∧ zCr A U H
def zXs : List String := ["java/lang/IllegalStateException", "java/lang/IllegalArgumentException", "java/lang/IndexOutOfBoundsException", "java/lang/UnsupportedOperationException", "java/util/NoSuchElementException"]
/-- the casts that are needed -/
def zCa : List (String × String) := [("Remotepane$Window", "java/lang/Object"), ("Remotepane$Key", "java/lang/Object"), ("java/lang/IllegalStateException", "java/lang/IllegalStateException"), ("java/lang/IllegalArgumentException", "java/lang/IllegalArgumentException"), ("java/lang/IndexOutOfBoundsException", "java/lang/IndexOutOfBoundsException"), ("java/lang/UnsupportedOperationException", "java/lang/UnsupportedOperationException"), ("java/util/NoSuchElementException", "java/util/NoSuchElementException")]
/-- the links to the host's private methods -/
def zNm : List (String × Nat × MethodName × String) := [(RX4, 40, yX8_isWithin, RX8), (RX7, 44, yX8_isScreenCell, RX8)]
def zOv : List String := ["Remotepane$Session", "Remotepane$Client", "Remotepane$Window", "java/lang/Object"]
def zDe : List MethodName := [Bundle.initS "java/lang/RuntimeException", Bundle.initS "java/lang/Exception", Bundle.initS Bundle.tN, ⟨"java/lang/Object", "getClass", "()Ljava/lang/Class;"⟩]
def zStr (ss : List (String × Nat × String)) (U : State) : Prop := (∀ q ∈ ss, ∃ a, vk_R q.1 q.2.1 q.2.2 a U) ∧ ((∀ E ∈ zXs, ∀ F ∈ zXs, E ≠ F → va_Nc E F U) ∧ ∃ mi : Nat, va_Mi "[Ljava/lang/Object;" mi U) ∧ (∀ q ∈ zCa, va_Nw (.castable q.1 q.2) U) ∧ (∀ x ∈ zDe, va_Nw (.declares x) U) ∧ (∀ q ∈ zNm, va_Nw (.methodLinkNest q.1 q.2.1 q.2.2.1 q.2.2.2) U) ∧ ∀ E ∈ zOv, va_AO E U
/-- what a method may write -/
def zA (ad : Nat → Nat) (h : zH) (sz : Nat) : Nat → Prop := fun q => (∃ n, zK h n ≠ 0 ∧ q = ad n) ∨ sz ≤ q
/-- a later heap and naming -/
def zE (h : zH) (ad : Nat → Nat) (h' : zH) (ad' : Nat → Nat) : Prop := (∀ n, (n ≤ 1 ∨ zK h n ≠ 0) → ad' n = ad n) ∧ ∀ n, zK h n ≠ 0 → zK h' n = zK h n
theorem zE_rf {h : zH} {ad : Nat → Nat} : zE h ad h ad := ⟨fun _ _ => rfl, fun _ _ => rfl⟩
theorem zE_tr {h h1 h2 : zH} {ad ad1 ad2 : Nat → Nat} (a : zE h ad h1 ad1) (b : zE h1 ad1 h2 ad2) : zE h ad h2 ad2 :=
  ⟨fun n hn => by
    rcases hn with hn | hn
    · exact (b.1 n (Or.inl hn)).trans (a.1 n (Or.inl hn))
    · exact (b.1 n (Or.inr (by rw [a.2 n hn]; exact hn))).trans (a.1 n (Or.inr hn)), fun n hn => (b.2 n (by rw [a.2 n hn]; exact hn)).trans (a.2 n hn)⟩
def zSs : List (String × Nat × String) := [(RX8, 32, "there are 4 sessions"), (RX8, 50, "a number is out of range"), (RX8, 57, "the session had 6 windows"), (RX8, 132, "the bid is out of range"), (RX8, 137, "there are 6 clients"), (RX8, 179, "the number is out of range"), (RX8, 184, "it is no letter from a to z"), (RX8, 192, "no window is shown"), (RX8, 201, "20 keys of the session wait"), (RX8, 247, "there is no such session"), (RX8, 250, "there is no such kind, or both are the same"), (RX8, 256, "both sessions are the same"), (RX8, 260, "the clipboard has no content"), (RX8, 267, "a session on the way may not pass it"), (RX8, 284, "the session is moving"), (RX8, 292, "the session is not moving"), (RX8, 309, "there is no recording of such a tick"), (RX8, 318, "there is no recording"), (RX8, 329, "there is no such cell"), (RX8, 331, "there is no such window"), (RX8, 337, "there is no such window that is open"), (RX8, 339, "there is no such client"), (RX8, 348, "the client is not behind")]
def zQc (D : va_G) (dA : Nat → ClassId) (ad : Nat → Nat) (h : zH) (Q : zO → zH → Prop) (A : Nat → Prop) : Array Value → State → Outcome → State → Prop := fun _ st oc t =>
  (∃ (v : Option zV) (h' : zH) (ad' : Nat → Nat), oc = .returned (v.map (zc ad')) ∧ Q (.inl v) h' ∧ zP t D dA A ad' h' t.heap ∧ zE h ad h' ad' ∧ ∀ w, v = some w → zokv h' w) ∧ va_F A st t
def zXc (D : va_G) (dA : Nat → ClassId) (ad : Nat → Nat) (h : zH) (Q : zO → zH → Prop) (A : Nat → Prop) : String → State → State → Prop := fun E st t =>
  (∃ (h' : zH) (ad' : Nat → Nat), Q (.inr E) h' ∧ zP t D dA A ad' h' t.heap ∧ zE h ad h' ad') ∧ va_F A st t
/-- a contract over the abstract world -/
def zB (D : va_G) (dA : Nat → ClassId) (ad : Nat → Nat) (sz : Nat) (As : List zV) (h : zH) (U : State) : Prop := U.heap.size = sz ∧ zP U D dA (zA ad h sz) ad h U.heap ∧ zTK U dA ∧ zS (zA ad h sz) (ad 0) U U.heap ∧ zStr zSs U ∧ ∀ v ∈ As, zokv h v
def zC (l : Launch) (Y : zM) (As : List zV) (h : zH) (Q : zO → zH → Prop) : Prop :=
  ∀ (D : va_G) (dA : Nat → ClassId) (ad : Nat → Nat) (sz : Nat), vx_Met l (zMy Y) (zWs Y) (zMr Y) (va_Pc (As.map (zc ad)) (zB D dA ad sz As h)) (zQc D dA ad h Q (zA ad h sz)) (zXc D dA ad h Q (zA ad h sz)) (zMr Y).cells (zMr Y).slots (zA ad h sz)
/-- the locals -/
def zLO (ad : Nat → Nat) (ls : List zV) (lm : Array Slot) (nL : Nat) : Prop := lm.size = nL ∧ lv_wf lm ∧ ∀ (i : Nat) (v : zV), ls[i]? = some v → v ≠ zX → lm[i]? = some (Slot.val (zc ad v))
/-- the script, where the method holds one -/
def zScr (Y : zM) (s : State) (A : Nat → Prop) (e1 : Nat) : Prop := match zMs Y with
  | none => True
  | some q => va_X e1 q.1 q.2 s s.heap ∧ e1 < s.heap.size ∧ ¬ A e1 ∧ q.1 < 2147483648
/-- what is known all along a method's body -/
def zCX (l : Launch) (Y : zM) (p : Program) (s : State) (m : MethodId) (args : Array Value) (meth : Method) (c : Code) (dA : Nat → ClassId) (A : Nat → Prop) (e0 e1 : Nat) : Prop :=
  p.tables.exec = Jvm.exec ∧ c.code = zMc Y ∧ meth.sig.returnType = zMt Y ∧ c.maxLocals = zMn Y ∧ s.vm.findClass (zMy Y).cls = some m.cls ∧ (∀ w ∈ zT, w.before args s = true) ∧ meth.locks = false ∧ meth.name = (zMy Y).name ∧ c.exceptionTable.toList = tableOf (zMh Y) ∧ zTK s dA ∧ zS A e0 s s.heap ∧ zStr zSs s ∧ (∀ q : Nat, s.heap.size ≤ q → A q) ∧ l.stackTraces = false ∧ zScr Y s A e1
/-- from here the method ends as Q says -/
def AW (l : Launch) (Y : zM) (Q : zO → zH → Prop) (k n pc : Nat) (ls st : List zV) (h : zH) : Prop :=
  ∀ (p : Program) (e : Env) (s : State) (m : MethodId) (args : Array Value) (below : List Frame) (meth : Method) (c : Code) (D : va_G) (dA : Nat → ClassId) (ad0 : Nat → Nat) (h0 : zH) (A : Nat → Prop),
    zCX l Y p s m args meth c dA A (ad0 0) (ad0 1) → ∀ (H : Heap) (locs : List Loc) (ad : Nat → Nat) (lm : Array Slot), zP s D dA A ad h H → zE h0 ad0 h ad → va_S A s.heap H locs → zLO ad ls lm (zMn Y) → (∀ v ∈ ls, zokv h v) → (∀ v ∈ st, zokv h v) →
      W p l e (zMr Y) s m args below meth c H locs k n (vx_MQ below (zQc D dA ad0 h0 Q A) (zXc D dA ad0 h0 Q A) args s (zMr Y).cells (zMr Y).slots A) (F0 m pc lm (st.map (zc ad)))
end
section
theorem zin_lt {a b : Int} (ha : zin a) (hb : zin b) : Int32.ofInt a < Int32.ofInt b ↔ a < b := by
  rw [Int32.lt_iff_toInt_lt, Int32.toInt_ofInt_of_le (by have := ha.1; omega) (by have := ha.2; omega), Int32.toInt_ofInt_of_le (by have := hb.1; omega) (by have := hb.2; omega)]
theorem zin_le {a b : Int} (ha : zin a) (hb : zin b) : Int32.ofInt a ≤ Int32.ofInt b ↔ a ≤ b := by
  rw [Int32.le_iff_toInt_le, Int32.toInt_ofInt_of_le (by have := ha.1; omega) (by have := ha.2; omega), Int32.toInt_ofInt_of_le (by have := hb.1; omega) (by have := hb.2; omega)]
theorem zin_eq {a b : Int} (ha : zin a) (hb : zin b) : Int32.ofInt a = Int32.ofInt b ↔ a = b := by
  rw [← Int32.toInt_inj, Int32.toInt_ofInt_of_le (by have := ha.1; omega) (by have := ha.2; omega), Int32.toInt_ofInt_of_le (by have := hb.1; omega) (by have := hb.2; omega)]
theorem zin_0 : zin 0 := by unfold zin; omega
theorem zo_cons {h : zH} {v : zV} {st : List zV} (a : zokv h v) (b : ∀ w ∈ st, zokv h w) : ∀ w ∈ v :: st, zokv h w := List.forall_mem_cons.mpr ⟨a, b⟩
theorem zo_tl {h : zH} {v : zV} {st : List zV} (b : ∀ w ∈ v :: st, zokv h w) : ∀ w ∈ st, zokv h w := (List.forall_mem_cons.mp b).2
theorem zo_hd {h : zH} {v : zV} {st : List zV} (b : ∀ w ∈ v :: st, zokv h w) : zokv h v := (List.forall_mem_cons.mp b).1
theorem zok_none {h : zH} : zok h none := fun _ h => by cases h
theorem zo_at {h : zH} {ls : List zV} {i : Nat} {v : zV} (b : ∀ w ∈ ls, zokv h w) (hl : ls[i]? = some v) : zokv h v := b v (List.mem_of_getElem? hl)
theorem zLO_at {ad : Nat → Nat} {ls : List zV} {lm : Array Slot} {nL i : Nat} {v : zV} (h : zLO ad ls lm nL) (hl : ls[i]? = some v) (hv : v ≠ zX) : lm[i]? = some (.val (zc ad v)) := h.2.2 i v hl hv
theorem zne_I {z : Int} : zI z ≠ zX := by intro h; cases h
theorem zne_R {r : Option Nat} : zR r ≠ zX := by intro h; cases h
/-- of one word -/
def z1 : zV → Bool
  | .inr (.inr (.inl _)) => false
  | .inr (.inr (.inr (.inr (.inl _)))) => false
  | _ => true
theorem z1_cat {ad : Nat → Nat} {v : zV} (h : z1 v = true) : (zc ad v).category = 1 := by
  rcases v with z | r | z | u | u | u
  · rfl
  · show (va_rf (r.map ad)).category = 1
    cases r <;> rfl
  · cases h
  · rfl
  · cases h
  · cases u <;> rfl
/-- nothing of two words just below place i -/
def zlow (ls : List zV) (i : Nat) : Bool := match i with
  | 0 => true
  | j + 1 => match ls[j]? with
    | some v => z1 v
    | none => true
def zlp (ad : Nat → Nat) (i : Nat) : Option zV → Option (Nat × Value)
  | some (Sum.inr (Sum.inr (Sum.inr (Sum.inr (Sum.inr false))))) => none
  | some v => some (i, zc ad v)
  | none => none
def zls (ad : Nat → Nat) (ls : List zV) : List (Nat × Value) := (List.range ls.length).filterMap (fun i => zlp ad i ls[i]?)
theorem zls_mem {ad : Nat → Nat} {ls : List zV} {i : Nat} {v : zV} (hl : ls[i]? = some v) (hv : v ≠ zX) : (i, zc ad v) ∈ zls ad ls := by
  refine List.mem_filterMap.mpr ⟨i, List.mem_range.mpr (List.getElem?_eq_some_iff.mp hl).1, ?_⟩
  rw [hl]
  rcases v with z | r | z | u | u | u
  · rfl
  · rfl
  · rfl
  · rfl
  · rfl
  · cases u
    · exact absurd rfl hv
    · rfl
theorem zLO_has {ad : Nat → Nat} {ls : List zV} {lm : Array Slot} {nL : Nat} (h : zLO ad ls lm nL) : lv_has lm nL (zls ad ls) := by
  refine ⟨h.1, h.2.1, fun q hq => ?_⟩
  obtain ⟨i, -, hi⟩ := List.mem_filterMap.mp hq
  cases hl : ls[i]? with
  | none => rw [hl] at hi; cases hi
  | some v =>
    rw [hl] at hi
    rcases v with z | r | z | u | u | u
    · cases hi; exact h.2.2 i _ hl zne_I
    · cases hi; exact h.2.2 i _ hl zne_R
    · cases hi; exact h.2.2 i _ hl (by intro z; cases z)
    · cases hi; exact h.2.2 i _ hl (by intro z; cases z)
    · cases hi; exact h.2.2 i _ hl (by intro z; cases z)
    · cases u
      · cases hi
      · cases hi; exact h.2.2 i _ hl (by intro z; cases z)
theorem zLO_set {ad : Nat → Nat} {ls : List zV} {lm : Array Slot} {nL i : Nat} {v : zV} {w : Value} (hlow : zlow ls i = true) (hv : zc ad v = w) (h : lv_has lm nL ((i, w) :: (zls ad ls).filter (fun q => !(q.1 == i) && !(q.1 + 1 == i && q.2.category == 2)))) : zLO ad (ls.set i v) lm nL := by
  refine ⟨h.1, h.2.1, fun j u hj hu => ?_⟩
  rw [List.getElem?_set] at hj
  by_cases e : i = j
  · subst e
    rw [if_pos rfl] at hj
    split at hj
    · cases hj
      rw [hv]
      exact h.2.2 (i, w) List.mem_cons_self
    · cases hj
  · rw [if_neg e] at hj
    refine h.2.2 (j, zc ad u) (List.mem_cons_of_mem _ (List.mem_filter.mpr ⟨zls_mem hj hu, ?_⟩))
    have e1 : (j == i) = false := by simp; omega
    have e2 : (j + 1 == i && (zc ad u).category == 2) = false := by
      by_cases e3 : j + 1 = i
      · subst e3
        have h1 : z1 u = true := by
          have := hlow
          simp only [zlow, hj] at this
          exact this
        rw [z1_cat h1]
        simp
      · simp [e3]
    simp only [e1, e2, Bool.not_false, Bool.and_self]
theorem zo_set {h : zH} {ls : List zV} {i : Nat} {v : zV} (a : zokv h v) (b : ∀ w ∈ ls, zokv h w) : ∀ w ∈ ls.set i v, zokv h w := fun w hw => by
  rcases List.mem_or_eq_of_mem_set hw with h1 | h1
  · exact b w h1
  · rw [h1]; exact a
theorem zP_inj {s : State} {D : va_G} {dA : Nat → ClassId} {A : Nat → Prop} {ad : Nat → Nat} {h : zH} {H : Heap} (hP : zP s D dA A ad h H) (h0 : ¬ A (ad 0)) {r t : Option Nat} (hr : zok h r) (ht : zok h t) : r.map ad = t.map ad ↔ r = t := by
  obtain ⟨-, L, tys, -, hL, -, -, hD⟩ := hP
  have key : ∀ n : Nat, zK h n ≠ 0 → ∃ i : Nat, (zW dA ad h L)[i]? = some (ad n, zEn dA ad h n) ∧ L[i]? = some n := by
    intro n hn
    obtain ⟨i, hi⟩ := List.getElem?_of_mem ((hL n).mpr hn)
    exact ⟨i, by rw [zW, List.getElem?_map, hi]; rfl, hi⟩
  constructor
  · intro e
    cases r with
    | none => cases t with
      | none => rfl
      | some b => cases e
    | some a => cases t with
      | none => cases e
      | some b =>
        have e : ad a = ad b := Option.some.inj e
        rcases hr a rfl with ha | ha <;> rcases ht b rfl with hb | hb
        · rw [ha, hb]
        · obtain ⟨i, hi, -⟩ := key b hb
          exact absurd (by have := hD.2 i _ hi; rwa [← e, ha] at this) h0
        · obtain ⟨i, hi, -⟩ := key a ha
          exact absurd (by have := hD.2 i _ hi; rwa [e, hb] at this) h0
        · obtain ⟨i, hi, ei⟩ := key a ha
          obtain ⟨j, hj, ej⟩ := key b hb
          have := hD.1 i j _ _ hi hj e
          subst this
          rw [← Option.some.inj (ei.symm.trans ej)]
  · intro e; rw [e]
theorem zS_out {A : Nat → Prop} {e0 : Nat} {U : State} {H : Heap} (h : zS A e0 U H) : ¬ A e0 := h.2.2.2.1.out

theorem e_iconst {l : Launch} {Y : zM} {Q : zO → zH → Prop} {k n pc : Nat} {ls st : List zV} {h : zH} {i : Int} (d : decode (zMc Y) pc = .ok (.iconst i, 1)) (K : AW l Y Q k n (pc + 1) ls (zI i :: st) h) : AW l Y Q k n pc ls st h := by
  intro p e s m args below meth c D dA ad0 h0 A C H locs ad lm hP hE hS hL o1 o2
  have hx := C.1
  have hb := C.2.1
  exact lv_iconst hx hb d rfl (K p e s m args below meth c D dA ad0 h0 A C H locs ad lm hP hE hS hL o1 (zo_cons trivial o2))
theorem e_bipush {l : Launch} {Y : zM} {Q : zO → zH → Prop} {k n pc : Nat} {ls st : List zV} {h : zH} {i : Int} (d : decode (zMc Y) pc = .ok (.bipush i, 2)) (hi : (Int8.ofInt i).toInt32 = Int32.ofInt i) (K : AW l Y Q k n (pc + 2) ls (zI i :: st) h) : AW l Y Q k n pc ls st h := by
  intro p e s m args below meth c D dA ad0 h0 A C H locs ad lm hP hE hS hL o1 o2
  have hx := C.1
  have hb := C.2.1
  exact lv_bipush hx hb d hi (K p e s m args below meth c D dA ad0 h0 A C H locs ad lm hP hE hS hL o1 (zo_cons trivial o2))
theorem e_sipush {l : Launch} {Y : zM} {Q : zO → zH → Prop} {k n pc : Nat} {ls st : List zV} {h : zH} {i : Int} (d : decode (zMc Y) pc = .ok (.sipush i, 3)) (hi : (Int16.ofInt i).toInt32 = Int32.ofInt i) (K : AW l Y Q k n (pc + 3) ls (zI i :: st) h) : AW l Y Q k n pc ls st h := by
  intro p e s m args below meth c D dA ad0 h0 A C H locs ad lm hP hE hS hL o1 o2
  have hx := C.1
  have hb := C.2.1
  exact lv_sipush hx hb d hi (K p e s m args below meth c D dA ad0 h0 A C H locs ad lm hP hE hS hL o1 (zo_cons trivial o2))
theorem e_lconst {l : Launch} {Y : zM} {Q : zO → zH → Prop} {k n pc : Nat} {ls st : List zV} {h : zH} {i : Fin 2} {z : Int} (d : decode (zMc Y) pc = .ok (.lconst i, 1)) (hi : Int64.ofNat (i : Nat) = Int64.ofInt z) (K : AW l Y Q k n (pc + 1) ls (zL z :: st) h) : AW l Y Q k n pc ls st h := by
  intro p e s m args below meth c D dA ad0 h0 A C H locs ad lm hP hE hS hL o1 o2
  have hx := C.1
  have hb := C.2.1
  exact lv_lconst hx hb d hi (K p e s m args below meth c D dA ad0 h0 A C H locs ad lm hP hE hS hL o1 (zo_cons trivial o2))
theorem e_null {l : Launch} {Y : zM} {Q : zO → zH → Prop} {k n pc : Nat} {ls st : List zV} {h : zH} (d : decode (zMc Y) pc = .ok (.aconst_null, 1)) (K : AW l Y Q k n (pc + 1) ls (zR none :: st) h) : AW l Y Q k n pc ls st h := by
  intro p e s m args below meth c D dA ad0 h0 A C H locs ad lm hP hE hS hL o1 o2
  have hx := C.1
  have hb := C.2.1
  exact lv_null hx hb d (K p e s m args below meth c D dA ad0 h0 A C H locs ad lm hP hE hS hL o1 (zo_cons zok_none o2))
theorem e_iload_n {l : Launch} {Y : zM} {Q : zO → zH → Prop} {k n pc : Nat} {ls st : List zV} {h : zH} {i : Fin 4} {j : Nat} {z : Int} (d : decode (zMc Y) pc = .ok (.iload_n i, 1)) (hi : (i : Nat) = j) (hl : ls[j]? = some (zI z)) (K : AW l Y Q k n (pc + 1) ls (zI z :: st) h) : AW l Y Q k n pc ls st h := by
  intro p e s m args below meth c D dA ad0 h0 A C H locs ad lm hP hE hS hL o1 o2
  have hx := C.1
  have hb := C.2.1
  exact lv_iload_n hx hb d hi (zLO_at hL hl zne_I) (K p e s m args below meth c D dA ad0 h0 A C H locs ad lm hP hE hS hL o1 (zo_cons trivial o2))
theorem e_iload {l : Launch} {Y : zM} {Q : zO → zH → Prop} {k n pc : Nat} {ls st : List zV} {h : zH} {j : Nat} {z : Int} (d : decode (zMc Y) pc = .ok (.iload j, 2)) (hl : ls[j]? = some (zI z)) (K : AW l Y Q k n (pc + 2) ls (zI z :: st) h) : AW l Y Q k n pc ls st h := by
  intro p e s m args below meth c D dA ad0 h0 A C H locs ad lm hP hE hS hL o1 o2
  have hx := C.1
  have hb := C.2.1
  exact lv_iload hx hb d (zLO_at hL hl zne_I) (K p e s m args below meth c D dA ad0 h0 A C H locs ad lm hP hE hS hL o1 (zo_cons trivial o2))
theorem e_aload_n {l : Launch} {Y : zM} {Q : zO → zH → Prop} {k n pc : Nat} {ls st : List zV} {h : zH} {i : Fin 4} {j : Nat} {r : Option Nat} (d : decode (zMc Y) pc = .ok (.aload_n i, 1)) (hi : (i : Nat) = j) (hl : ls[j]? = some (zR r)) (K : AW l Y Q k n (pc + 1) ls (zR r :: st) h) : AW l Y Q k n pc ls st h := by
  intro p e s m args below meth c D dA ad0 h0 A C H locs ad lm hP hE hS hL o1 o2
  have hx := C.1
  have hb := C.2.1
  have K := K p e s m args below meth c D dA ad0 h0 A C H locs ad lm hP hE hS hL o1 (zo_cons (zo_at o1 hl) o2)
  have hl2 := zLO_at hL hl zne_R
  cases r with
  | none => exact lv_aload_nN hx hb d hi hl2 K
  | some a => exact lv_aload_n hx hb d hi hl2 K
theorem e_aload {l : Launch} {Y : zM} {Q : zO → zH → Prop} {k n pc : Nat} {ls st : List zV} {h : zH} {j : Nat} {r : Option Nat} (d : decode (zMc Y) pc = .ok (.aload j, 2)) (hl : ls[j]? = some (zR r)) (K : AW l Y Q k n (pc + 2) ls (zR r :: st) h) : AW l Y Q k n pc ls st h := by
  intro p e s m args below meth c D dA ad0 h0 A C H locs ad lm hP hE hS hL o1 o2
  have hx := C.1
  have hb := C.2.1
  have K := K p e s m args below meth c D dA ad0 h0 A C H locs ad lm hP hE hS hL o1 (zo_cons (zo_at o1 hl) o2)
  have hl2 := zLO_at hL hl zne_R
  cases r with
  | none => exact lv_aloadN hx hb d hl2 K
  | some a => exact lv_aload hx hb d hl2 K
theorem e_istore_n {l : Launch} {Y : zM} {Q : zO → zH → Prop} {k n pc : Nat} {ls st : List zV} {h : zH} {i : Fin 4} {j : Nat} {z : Int} {ls2 : List zV} (d : decode (zMc Y) pc = .ok (.istore_n i, 1)) (hi : (i : Nat) = j) (hn : j < zMn Y) (hw : zlow ls j = true) (hs : ls.set j (zI z) = ls2) (K : AW l Y Q k n (pc + 1) ls2 st h) : AW l Y Q k n pc ls (zI z :: st) h := by
  intro p e s m args below meth c D dA ad0 h0 A C H locs ad lm hP hE hS hL o1 o2
  have hx := C.1
  have hb := C.2.1
  subst hs
  exact lv_istore_n hx hb d hi (zLO_has hL) hn rfl (fun lm2 h2 => K p e s m args below meth c D dA ad0 h0 A C H locs ad lm2 hP hE hS (zLO_set hw rfl h2) (zo_set trivial o1) (zo_tl o2))
theorem e_istore {l : Launch} {Y : zM} {Q : zO → zH → Prop} {k n pc : Nat} {ls st : List zV} {h : zH} {j : Nat} {z : Int} {ls2 : List zV} (d : decode (zMc Y) pc = .ok (.istore j, 2)) (hn : j < zMn Y) (hw : zlow ls j = true) (hs : ls.set j (zI z) = ls2) (K : AW l Y Q k n (pc + 2) ls2 st h) : AW l Y Q k n pc ls (zI z :: st) h := by
  intro p e s m args below meth c D dA ad0 h0 A C H locs ad lm hP hE hS hL o1 o2
  have hx := C.1
  have hb := C.2.1
  subst hs
  exact lv_istore hx hb d (zLO_has hL) hn rfl (fun lm2 h2 => K p e s m args below meth c D dA ad0 h0 A C H locs ad lm2 hP hE hS (zLO_set hw rfl h2) (zo_set trivial o1) (zo_tl o2))
theorem e_astore_n {l : Launch} {Y : zM} {Q : zO → zH → Prop} {k n pc : Nat} {ls st : List zV} {h : zH} {i : Fin 4} {j : Nat} {r : Option Nat} {ls2 : List zV} (d : decode (zMc Y) pc = .ok (.astore_n i, 1)) (hi : (i : Nat) = j) (hn : j < zMn Y) (hw : zlow ls j = true) (hs : ls.set j (zR r) = ls2) (K : AW l Y Q k n (pc + 1) ls2 st h) : AW l Y Q k n pc ls (zR r :: st) h := by
  intro p e s m args below meth c D dA ad0 h0 A C H locs ad lm hP hE hS hL o1 o2
  have hx := C.1
  have hb := C.2.1
  subst hs
  have o3 : zokv h (zR r) := zo_hd o2
  cases r with
  | none => exact lv_astore_nN hx hb d hi (zLO_has hL) hn rfl (fun lm2 h2 => K p e s m args below meth c D dA ad0 h0 A C H locs ad lm2 hP hE hS (zLO_set hw rfl h2) (zo_set o3 o1) (zo_tl o2))
  | some a => exact lv_astore_n hx hb d hi (zLO_has hL) hn rfl (fun lm2 h2 => K p e s m args below meth c D dA ad0 h0 A C H locs ad lm2 hP hE hS (zLO_set hw rfl h2) (zo_set o3 o1) (zo_tl o2))
theorem e_astore {l : Launch} {Y : zM} {Q : zO → zH → Prop} {k n pc : Nat} {ls st : List zV} {h : zH} {j : Nat} {r : Option Nat} {ls2 : List zV} (d : decode (zMc Y) pc = .ok (.astore j, 2)) (hn : j < zMn Y) (hw : zlow ls j = true) (hs : ls.set j (zR r) = ls2) (K : AW l Y Q k n (pc + 2) ls2 st h) : AW l Y Q k n pc ls (zR r :: st) h := by
  intro p e s m args below meth c D dA ad0 h0 A C H locs ad lm hP hE hS hL o1 o2
  have hx := C.1
  have hb := C.2.1
  subst hs
  have o3 : zokv h (zR r) := zo_hd o2
  cases r with
  | none => exact lv_astoreN hx hb d (zLO_has hL) hn rfl (fun lm2 h2 => K p e s m args below meth c D dA ad0 h0 A C H locs ad lm2 hP hE hS (zLO_set hw rfl h2) (zo_set o3 o1) (zo_tl o2))
  | some a => exact lv_astore hx hb d (zLO_has hL) hn rfl (fun lm2 h2 => K p e s m args below meth c D dA ad0 h0 A C H locs ad lm2 hP hE hS (zLO_set hw rfl h2) (zo_set o3 o1) (zo_tl o2))
theorem zls_idx {ad : Nat → Nat} {ls : List zV} {j : Nat} {v : zV} (hl : ls[j]? = some v) (hv : v ≠ zX) : ∃ q : Nat, (zls ad ls)[q]? = some (j, zc ad v) := List.getElem?_of_mem (zls_mem hl hv)
theorem e_iinc {l : Launch} {Y : zM} {Q : zO → zH → Prop} {k n pc : Nat} {ls st : List zV} {h : zH} {j : Nat} {i z w : Int} {ls2 : List zV} (d : decode (zMc Y) pc = .ok (.iinc j i, 3)) (hn : j < zMn Y) (hw : zlow ls j = true) (hl : ls[j]? = some (zI z)) (hz : z + i = w) (hs : ls.set j (zI w) = ls2) (K : AW l Y Q k n (pc + 3) ls2 st h) : AW l Y Q k n pc ls st h := by
  intro p e s m args below meth c D dA ad0 h0 A C H locs ad lm hP hE hS hL o1 o2
  have hx := C.1
  have hb := C.2.1
  subst hs
  subst hz
  obtain ⟨q, hq⟩ := zls_idx (ad := ad) hl zne_I
  exact lv_iinc hx hb d (zLO_has hL) hq (Int32.ofInt_add z i).symm hn rfl (fun lm2 h2 => K p e s m args below meth c D dA ad0 h0 A C H locs ad lm2 hP hE hS (zLO_set hw rfl h2) (zo_set trivial o1) o2)
theorem e_iadd {l : Launch} {Y : zM} {Q : zO → zH → Prop} {k n pc : Nat} {ls st : List zV} {h : zH} {a b : Int} (d : decode (zMc Y) pc = .ok (.iadd, 1)) (K : AW l Y Q k n (pc + 1) ls (zI (a + b) :: st) h) : AW l Y Q k n pc ls (zI b :: zI a :: st) h := by
  intro p e s m args below meth c D dA ad0 h0 A C H locs ad lm hP hE hS hL o1 o2
  have hx := C.1
  have hb := C.2.1
  have K := K p e s m args below meth c D dA ad0 h0 A C H locs ad lm hP hE hS hL o1 (zo_cons trivial (zo_tl (zo_tl o2)))
  refine lv_iadd hx hb d ?_
  rw [← Int32.ofInt_add]
  exact K
theorem e_isub {l : Launch} {Y : zM} {Q : zO → zH → Prop} {k n pc : Nat} {ls st : List zV} {h : zH} {a b : Int} (d : decode (zMc Y) pc = .ok (.isub, 1)) (K : AW l Y Q k n (pc + 1) ls (zI (a - b) :: st) h) : AW l Y Q k n pc ls (zI b :: zI a :: st) h := by
  intro p e s m args below meth c D dA ad0 h0 A C H locs ad lm hP hE hS hL o1 o2
  have hx := C.1
  have hb := C.2.1
  have K := K p e s m args below meth c D dA ad0 h0 A C H locs ad lm hP hE hS hL o1 (zo_cons trivial (zo_tl (zo_tl o2)))
  refine lv_isub hx hb d ?_
  rw [← Int32.ofInt_sub]
  exact K
theorem e_imul {l : Launch} {Y : zM} {Q : zO → zH → Prop} {k n pc : Nat} {ls st : List zV} {h : zH} {a b : Int} (d : decode (zMc Y) pc = .ok (.imul, 1)) (K : AW l Y Q k n (pc + 1) ls (zI (a * b) :: st) h) : AW l Y Q k n pc ls (zI b :: zI a :: st) h := by
  intro p e s m args below meth c D dA ad0 h0 A C H locs ad lm hP hE hS hL o1 o2
  have hx := C.1
  have hb := C.2.1
  have K := K p e s m args below meth c D dA ad0 h0 A C H locs ad lm hP hE hS hL o1 (zo_cons trivial (zo_tl (zo_tl o2)))
  refine lv_imul hx hb d ?_
  rw [← Int32.ofInt_mul]
  exact K
theorem zdiv {a b : Int} (ha : zin a) (h0 : 0 ≤ a) (hb : zin b) (h1 : 0 < b) : Int32.ofInt a / Int32.ofInt b = Int32.ofInt (a / b) := by
  have e1 : (Int32.minValue).toInt = -2147483648 := by decide
  have e2 : (Int32.maxValue).toInt = 2147483647 := by decide
  have h2 := ha.2
  have h3 := hb.2
  rw [← Int.tdiv_eq_ediv_of_nonneg h0]
  exact (Int32.ofInt_tdiv (by omega) (by omega) (by omega) (by omega)).symm
theorem e_idiv {l : Launch} {Y : zM} {Q : zO → zH → Prop} {k n pc : Nat} {ls st : List zV} {h : zH} {a b : Int} (d : decode (zMc Y) pc = .ok (.idiv, 1)) (ha : zin a) (ha0 : 0 ≤ a) (hbb : zin b) (h1 : 0 < b) (K : AW l Y Q k n (pc + 1) ls (zI (a / b) :: st) h) : AW l Y Q k n pc ls (zI b :: zI a :: st) h := by
  intro p e s m args below meth c D dA ad0 h0 A C H locs ad lm hP hE hS hL o1 o2
  have hx := C.1
  have hb := C.2.1
  have K := K p e s m args below meth c D dA ad0 h0 A C H locs ad lm hP hE hS hL o1 (zo_cons trivial (zo_tl (zo_tl o2)))
  refine lv_idiv hx hb d (fun z => ?_) ?_
  · have := (zin_eq hbb zin_0).mp z
    omega
  · rw [zdiv ha ha0 hbb h1]
    exact K
theorem e_irem {l : Launch} {Y : zM} {Q : zO → zH → Prop} {k n pc : Nat} {ls st : List zV} {h : zH} {a b : Int} (d : decode (zMc Y) pc = .ok (.irem, 1)) (ha : zin a) (ha0 : 0 ≤ a) (hbb : zin b) (h1 : 0 < b) (K : AW l Y Q k n (pc + 1) ls (zI (a % b) :: st) h) : AW l Y Q k n pc ls (zI b :: zI a :: st) h := by
  intro p e s m args below meth c D dA ad0 h0 A C H locs ad lm hP hE hS hL o1 o2
  have hx := C.1
  have hb := C.2.1
  have K := K p e s m args below meth c D dA ad0 h0 A C H locs ad lm hP hE hS hL o1 (zo_cons trivial (zo_tl (zo_tl o2)))
  refine lv_irem hx hb d (fun z => ?_) ?_
  · have := (zin_eq hbb zin_0).mp z
    omega
  · rw [zdiv ha ha0 hbb h1, ← Int32.ofInt_mul, ← Int32.ofInt_sub, show a - a / b * b = a % b by rw [Int.emod_def, Int.mul_comm b]]
    exact K
theorem e_iand {l : Launch} {Y : zM} {Q : zO → zH → Prop} {k n pc : Nat} {ls st : List zV} {h : zH} {a b c9 : Int} (d : decode (zMc Y) pc = .ok (.iand, 1)) (he : Int32.ofInt a &&& Int32.ofInt b = Int32.ofInt c9) (K : AW l Y Q k n (pc + 1) ls (zI c9 :: st) h) : AW l Y Q k n pc ls (zI b :: zI a :: st) h := by
  intro p e s m args below meth c D dA ad0 h0 A C H locs ad lm hP hE hS hL o1 o2
  have hx := C.1
  have hb := C.2.1
  have K := K p e s m args below meth c D dA ad0 h0 A C H locs ad lm hP hE hS hL o1 (zo_cons trivial (zo_tl (zo_tl o2)))
  refine lv_iand hx hb d ?_
  rw [he]
  exact K
theorem e_ior {l : Launch} {Y : zM} {Q : zO → zH → Prop} {k n pc : Nat} {ls st : List zV} {h : zH} {a b c9 : Int} (d : decode (zMc Y) pc = .ok (.ior, 1)) (he : Int32.ofInt a ||| Int32.ofInt b = Int32.ofInt c9) (K : AW l Y Q k n (pc + 1) ls (zI c9 :: st) h) : AW l Y Q k n pc ls (zI b :: zI a :: st) h := by
  intro p e s m args below meth c D dA ad0 h0 A C H locs ad lm hP hE hS hL o1 o2
  have hx := C.1
  have hb := C.2.1
  have K := K p e s m args below meth c D dA ad0 h0 A C H locs ad lm hP hE hS hL o1 (zo_cons trivial (zo_tl (zo_tl o2)))
  refine lv_ior hx hb d ?_
  rw [he]
  exact K
theorem e_ishl {l : Launch} {Y : zM} {Q : zO → zH → Prop} {k n pc : Nat} {ls st : List zV} {h : zH} {a b c9 : Int} (d : decode (zMc Y) pc = .ok (.ishl, 1)) (he : Int32.ofInt a <<< (Int32.ofInt b &&& 31) = Int32.ofInt c9) (K : AW l Y Q k n (pc + 1) ls (zI c9 :: st) h) : AW l Y Q k n pc ls (zI b :: zI a :: st) h := by
  intro p e s m args below meth c D dA ad0 h0 A C H locs ad lm hP hE hS hL o1 o2
  have hx := C.1
  have hb := C.2.1
  have K := K p e s m args below meth c D dA ad0 h0 A C H locs ad lm hP hE hS hL o1 (zo_cons trivial (zo_tl (zo_tl o2)))
  refine lv_ishl hx hb d ?_
  rw [he]
  exact K
theorem e_ishr {l : Launch} {Y : zM} {Q : zO → zH → Prop} {k n pc : Nat} {ls st : List zV} {h : zH} {a b c9 : Int} (d : decode (zMc Y) pc = .ok (.ishr, 1)) (he : Int32.ofInt a >>> (Int32.ofInt b &&& 31) = Int32.ofInt c9) (K : AW l Y Q k n (pc + 1) ls (zI c9 :: st) h) : AW l Y Q k n pc ls (zI b :: zI a :: st) h := by
  intro p e s m args below meth c D dA ad0 h0 A C H locs ad lm hP hE hS hL o1 o2
  have hx := C.1
  have hb := C.2.1
  have K := K p e s m args below meth c D dA ad0 h0 A C H locs ad lm hP hE hS hL o1 (zo_cons trivial (zo_tl (zo_tl o2)))
  refine lv_ishr hx hb d ?_
  rw [he]
  exact K
theorem zin_l {a : Int} (ha : zin a) : (Int32.ofInt a).toInt64 = Int64.ofInt a := by
  have e1 : (Int32.minValue).toInt = -2147483648 := by decide
  have e2 : (Int32.maxValue).toInt = 2147483647 := by decide
  exact Int32.toInt64_ofInt (by have := ha.1; omega) (by have := ha.2; omega)
theorem e_i2l {l : Launch} {Y : zM} {Q : zO → zH → Prop} {k n pc : Nat} {ls st : List zV} {h : zH} {a : Int} (d : decode (zMc Y) pc = .ok (.i2l, 1)) (ha : zin a) (K : AW l Y Q k n (pc + 1) ls (zL a :: st) h) : AW l Y Q k n pc ls (zI a :: st) h := by
  intro p e s m args below meth c D dA ad0 h0 A C H locs ad lm hP hE hS hL o1 o2
  have hx := C.1
  have hb := C.2.1
  exact lv_i2l hx hb d (zin_l ha) (K p e s m args below meth c D dA ad0 h0 A C H locs ad lm hP hE hS hL o1 (zo_cons trivial (zo_tl o2)))
theorem e_ladd {l : Launch} {Y : zM} {Q : zO → zH → Prop} {k n pc : Nat} {ls st : List zV} {h : zH} {a b : Int} (d : decode (zMc Y) pc = .ok (.ladd, 1)) (K : AW l Y Q k n (pc + 1) ls (zL (a + b) :: st) h) : AW l Y Q k n pc ls (zL b :: zL a :: st) h := by
  intro p e s m args below meth c D dA ad0 h0 A C H locs ad lm hP hE hS hL o1 o2
  have hx := C.1
  have hb := C.2.1
  have K := K p e s m args below meth c D dA ad0 h0 A C H locs ad lm hP hE hS hL o1 (zo_cons trivial (zo_tl (zo_tl o2)))
  refine lv_ladd hx hb d ?_
  rw [← Int64.ofInt_add]
  exact K
theorem e_i2c {l : Launch} {Y : zM} {Q : zO → zH → Prop} {k n pc : Nat} {ls st : List zV} {h : zH} {a b : Int} (d : decode (zMc Y) pc = .ok (.i2c, 1)) (he : ((Int32.ofInt a).toUInt32 % 65536).toInt32 = Int32.ofInt b) (K : AW l Y Q k n (pc + 1) ls (zI b :: st) h) : AW l Y Q k n pc ls (zI a :: st) h := by
  intro p e s m args below meth c D dA ad0 h0 A C H locs ad lm hP hE hS hL o1 o2
  have hx := C.1
  have hb := C.2.1
  exact lv_i2c hx hb d he (K p e s m args below meth c D dA ad0 h0 A C H locs ad lm hP hE hS hL o1 (zo_cons trivial (zo_tl o2)))
theorem e_dup {l : Launch} {Y : zM} {Q : zO → zH → Prop} {k n pc : Nat} {ls st : List zV} {h : zH} {v : zV} (d : decode (zMc Y) pc = .ok (.dup, 1)) (hv : z1 v = true) (K : AW l Y Q k n (pc + 1) ls (v :: v :: st) h) : AW l Y Q k n pc ls (v :: st) h := by
  intro p e s m args below meth c D dA ad0 h0 A C H locs ad lm hP hE hS hL o1 o2
  have hx := C.1
  have hb := C.2.1
  exact lv_dup hx hb d (z1_cat hv) (K p e s m args below meth c D dA ad0 h0 A C H locs ad lm hP hE hS hL o1 (zo_cons (zo_hd o2) o2))
theorem e_pop {l : Launch} {Y : zM} {Q : zO → zH → Prop} {k n pc : Nat} {ls st : List zV} {h : zH} {v : zV} (d : decode (zMc Y) pc = .ok (.pop, 1)) (hv : z1 v = true) (K : AW l Y Q k n (pc + 1) ls st h) : AW l Y Q k n pc ls (v :: st) h := by
  intro p e s m args below meth c D dA ad0 h0 A C H locs ad lm hP hE hS hL o1 o2
  have hx := C.1
  have hb := C.2.1
  exact lv_pop hx hb d (z1_cat hv) (K p e s m args below meth c D dA ad0 h0 A C H locs ad lm hP hE hS hL o1 (zo_tl o2))
theorem e_dup2 {l : Launch} {Y : zM} {Q : zO → zH → Prop} {k n pc : Nat} {ls st : List zV} {h : zH} {v w : zV} (d : decode (zMc Y) pc = .ok (.dup2, 1)) (hv : z1 v = true) (hw : z1 w = true) (K : AW l Y Q k n (pc + 1) ls (v :: w :: v :: w :: st) h) : AW l Y Q k n pc ls (v :: w :: st) h := by
  intro p e s m args below meth c D dA ad0 h0 A C H locs ad lm hP hE hS hL o1 o2
  have hx := C.1
  have hb := C.2.1
  exact lv_dup2_11 hx hb d (z1_cat hv) (z1_cat hw) (K p e s m args below meth c D dA ad0 h0 A C H locs ad lm hP hE hS hL o1 (zo_cons (zo_hd o2) (zo_cons (zo_hd (zo_tl o2)) o2)))
theorem e_dup_x1 {l : Launch} {Y : zM} {Q : zO → zH → Prop} {k n pc : Nat} {ls st : List zV} {h : zH} {v w : zV} (d : decode (zMc Y) pc = .ok (.dup_x1, 1)) (hv : z1 v = true) (hw : z1 w = true) (K : AW l Y Q k n (pc + 1) ls (v :: w :: v :: st) h) : AW l Y Q k n pc ls (v :: w :: st) h := by
  intro p e s m args below meth c D dA ad0 h0 A C H locs ad lm hP hE hS hL o1 o2
  have hx := C.1
  have hb := C.2.1
  exact lv_dup_x1 hx hb d (z1_cat hv) (z1_cat hw) (K p e s m args below meth c D dA ad0 h0 A C H locs ad lm hP hE hS hL o1 (zo_cons (zo_hd o2) (zo_cons (zo_hd (zo_tl o2)) (zo_cons (zo_hd o2) (zo_tl (zo_tl o2))))))
theorem e_goto {l : Launch} {Y : zM} {Q : zO → zH → Prop} {k n pc : Nat} {ls st : List zV} {h : zH} {off : Int} {tgt : Nat} (d : decode (zMc Y) pc = .ok (.goto off, 3)) (ht : (pc : Int) + off = (tgt : Int)) (K : AW l Y Q k n tgt ls st h) : AW l Y Q k n pc ls st h := by
  intro p e s m args below meth c D dA ad0 h0 A C H locs ad lm hP hE hS hL o1 o2
  have hx := C.1
  have hb := C.2.1
  exact lv_goto hx hb d ht (K p e s m args below meth c D dA ad0 h0 A C H locs ad lm hP hE hS hL o1 o2)
theorem e_if_eq {l : Launch} {Y : zM} {Q : zO → zH → Prop} {k n pc : Nat} {ls st : List zV} {h : zH} {a off : Int} {tgt : Nat} (d : decode (zMc Y) pc = .ok (.ifCond .eq off, 3)) (ht : (pc : Int) + off = (tgt : Int)) (hr : zin a) (kt : a = 0 → AW l Y Q k n tgt ls st h) (kf : ¬ a = 0 → AW l Y Q k n (pc + 3) ls st h) : AW l Y Q k n pc ls (zI a :: st) h := by
  intro p e s m args below meth c D dA ad0 h0 A C H locs ad lm hP hE hS hL o1 o2
  have hx := C.1
  have hb := C.2.1
  exact lv_if_eq hx hb d ht (fun z => (kt ((zin_eq hr zin_0).mp z)) p e s m args below meth c D dA ad0 h0 A C H locs ad lm hP hE hS hL o1 (zo_tl o2)) (fun z => (kf (fun y => z ((zin_eq hr zin_0).mpr y))) p e s m args below meth c D dA ad0 h0 A C H locs ad lm hP hE hS hL o1 (zo_tl o2))
theorem e_if_ne {l : Launch} {Y : zM} {Q : zO → zH → Prop} {k n pc : Nat} {ls st : List zV} {h : zH} {a off : Int} {tgt : Nat} (d : decode (zMc Y) pc = .ok (.ifCond .ne off, 3)) (ht : (pc : Int) + off = (tgt : Int)) (hr : zin a) (kt : ¬ a = 0 → AW l Y Q k n tgt ls st h) (kf : a = 0 → AW l Y Q k n (pc + 3) ls st h) : AW l Y Q k n pc ls (zI a :: st) h := by
  intro p e s m args below meth c D dA ad0 h0 A C H locs ad lm hP hE hS hL o1 o2
  have hx := C.1
  have hb := C.2.1
  exact lv_if_ne hx hb d ht (fun z => (kt (fun y => z ((zin_eq hr zin_0).mpr y))) p e s m args below meth c D dA ad0 h0 A C H locs ad lm hP hE hS hL o1 (zo_tl o2)) (fun z => (kf ((zin_eq hr zin_0).mp z)) p e s m args below meth c D dA ad0 h0 A C H locs ad lm hP hE hS hL o1 (zo_tl o2))
theorem e_if_lt {l : Launch} {Y : zM} {Q : zO → zH → Prop} {k n pc : Nat} {ls st : List zV} {h : zH} {a off : Int} {tgt : Nat} (d : decode (zMc Y) pc = .ok (.ifCond .lt off, 3)) (ht : (pc : Int) + off = (tgt : Int)) (hr : zin a) (kt : a < 0 → AW l Y Q k n tgt ls st h) (kf : ¬ a < 0 → AW l Y Q k n (pc + 3) ls st h) : AW l Y Q k n pc ls (zI a :: st) h := by
  intro p e s m args below meth c D dA ad0 h0 A C H locs ad lm hP hE hS hL o1 o2
  have hx := C.1
  have hb := C.2.1
  exact lv_if_lt hx hb d ht (fun z => (kt ((zin_lt hr zin_0).mp z)) p e s m args below meth c D dA ad0 h0 A C H locs ad lm hP hE hS hL o1 (zo_tl o2)) (fun z => (kf (fun y => z ((zin_lt hr zin_0).mpr y))) p e s m args below meth c D dA ad0 h0 A C H locs ad lm hP hE hS hL o1 (zo_tl o2))
theorem e_if_ge {l : Launch} {Y : zM} {Q : zO → zH → Prop} {k n pc : Nat} {ls st : List zV} {h : zH} {a off : Int} {tgt : Nat} (d : decode (zMc Y) pc = .ok (.ifCond .ge off, 3)) (ht : (pc : Int) + off = (tgt : Int)) (hr : zin a) (kt : 0 ≤ a → AW l Y Q k n tgt ls st h) (kf : ¬ 0 ≤ a → AW l Y Q k n (pc + 3) ls st h) : AW l Y Q k n pc ls (zI a :: st) h := by
  intro p e s m args below meth c D dA ad0 h0 A C H locs ad lm hP hE hS hL o1 o2
  have hx := C.1
  have hb := C.2.1
  exact lv_if_ge hx hb d ht (fun z => (kt ((zin_le zin_0 hr).mp z)) p e s m args below meth c D dA ad0 h0 A C H locs ad lm hP hE hS hL o1 (zo_tl o2)) (fun z => (kf (fun y => z ((zin_le zin_0 hr).mpr y))) p e s m args below meth c D dA ad0 h0 A C H locs ad lm hP hE hS hL o1 (zo_tl o2))
theorem e_if_gt {l : Launch} {Y : zM} {Q : zO → zH → Prop} {k n pc : Nat} {ls st : List zV} {h : zH} {a off : Int} {tgt : Nat} (d : decode (zMc Y) pc = .ok (.ifCond .gt off, 3)) (ht : (pc : Int) + off = (tgt : Int)) (hr : zin a) (kt : 0 < a → AW l Y Q k n tgt ls st h) (kf : ¬ 0 < a → AW l Y Q k n (pc + 3) ls st h) : AW l Y Q k n pc ls (zI a :: st) h := by
  intro p e s m args below meth c D dA ad0 h0 A C H locs ad lm hP hE hS hL o1 o2
  have hx := C.1
  have hb := C.2.1
  exact lv_if_gt hx hb d ht (fun z => (kt ((zin_lt zin_0 hr).mp z)) p e s m args below meth c D dA ad0 h0 A C H locs ad lm hP hE hS hL o1 (zo_tl o2)) (fun z => (kf (fun y => z ((zin_lt zin_0 hr).mpr y))) p e s m args below meth c D dA ad0 h0 A C H locs ad lm hP hE hS hL o1 (zo_tl o2))
theorem e_if_le {l : Launch} {Y : zM} {Q : zO → zH → Prop} {k n pc : Nat} {ls st : List zV} {h : zH} {a off : Int} {tgt : Nat} (d : decode (zMc Y) pc = .ok (.ifCond .le off, 3)) (ht : (pc : Int) + off = (tgt : Int)) (hr : zin a) (kt : a ≤ 0 → AW l Y Q k n tgt ls st h) (kf : ¬ a ≤ 0 → AW l Y Q k n (pc + 3) ls st h) : AW l Y Q k n pc ls (zI a :: st) h := by
  intro p e s m args below meth c D dA ad0 h0 A C H locs ad lm hP hE hS hL o1 o2
  have hx := C.1
  have hb := C.2.1
  exact lv_if_le hx hb d ht (fun z => (kt ((zin_le hr zin_0).mp z)) p e s m args below meth c D dA ad0 h0 A C H locs ad lm hP hE hS hL o1 (zo_tl o2)) (fun z => (kf (fun y => z ((zin_le hr zin_0).mpr y))) p e s m args below meth c D dA ad0 h0 A C H locs ad lm hP hE hS hL o1 (zo_tl o2))
theorem e_icmp_eq {l : Launch} {Y : zM} {Q : zO → zH → Prop} {k n pc : Nat} {ls st : List zV} {h : zH} {a b off : Int} {tgt : Nat} (d : decode (zMc Y) pc = .ok (.if_icmp .eq off, 3)) (ht : (pc : Int) + off = (tgt : Int)) (hr : zin a) (hq : zin b) (kt : a = b → AW l Y Q k n tgt ls st h) (kf : ¬ a = b → AW l Y Q k n (pc + 3) ls st h) : AW l Y Q k n pc ls (zI b :: zI a :: st) h := by
  intro p e s m args below meth c D dA ad0 h0 A C H locs ad lm hP hE hS hL o1 o2
  have hx := C.1
  have hb := C.2.1
  exact lv_icmp_eq hx hb d ht (fun z => (kt ((zin_eq hr hq).mp z)) p e s m args below meth c D dA ad0 h0 A C H locs ad lm hP hE hS hL o1 (zo_tl (zo_tl o2))) (fun z => (kf (fun y => z ((zin_eq hr hq).mpr y))) p e s m args below meth c D dA ad0 h0 A C H locs ad lm hP hE hS hL o1 (zo_tl (zo_tl o2)))
theorem e_icmp_ne {l : Launch} {Y : zM} {Q : zO → zH → Prop} {k n pc : Nat} {ls st : List zV} {h : zH} {a b off : Int} {tgt : Nat} (d : decode (zMc Y) pc = .ok (.if_icmp .ne off, 3)) (ht : (pc : Int) + off = (tgt : Int)) (hr : zin a) (hq : zin b) (kt : ¬ a = b → AW l Y Q k n tgt ls st h) (kf : a = b → AW l Y Q k n (pc + 3) ls st h) : AW l Y Q k n pc ls (zI b :: zI a :: st) h := by
  intro p e s m args below meth c D dA ad0 h0 A C H locs ad lm hP hE hS hL o1 o2
  have hx := C.1
  have hb := C.2.1
  exact lv_icmp_ne hx hb d ht (fun z => (kt (fun y => z ((zin_eq hr hq).mpr y))) p e s m args below meth c D dA ad0 h0 A C H locs ad lm hP hE hS hL o1 (zo_tl (zo_tl o2))) (fun z => (kf ((zin_eq hr hq).mp z)) p e s m args below meth c D dA ad0 h0 A C H locs ad lm hP hE hS hL o1 (zo_tl (zo_tl o2)))
theorem e_icmp_lt {l : Launch} {Y : zM} {Q : zO → zH → Prop} {k n pc : Nat} {ls st : List zV} {h : zH} {a b off : Int} {tgt : Nat} (d : decode (zMc Y) pc = .ok (.if_icmp .lt off, 3)) (ht : (pc : Int) + off = (tgt : Int)) (hr : zin a) (hq : zin b) (kt : a < b → AW l Y Q k n tgt ls st h) (kf : ¬ a < b → AW l Y Q k n (pc + 3) ls st h) : AW l Y Q k n pc ls (zI b :: zI a :: st) h := by
  intro p e s m args below meth c D dA ad0 h0 A C H locs ad lm hP hE hS hL o1 o2
  have hx := C.1
  have hb := C.2.1
  exact lv_icmp_lt hx hb d ht (fun z => (kt ((zin_lt hr hq).mp z)) p e s m args below meth c D dA ad0 h0 A C H locs ad lm hP hE hS hL o1 (zo_tl (zo_tl o2))) (fun z => (kf (fun y => z ((zin_lt hr hq).mpr y))) p e s m args below meth c D dA ad0 h0 A C H locs ad lm hP hE hS hL o1 (zo_tl (zo_tl o2)))
theorem e_icmp_ge {l : Launch} {Y : zM} {Q : zO → zH → Prop} {k n pc : Nat} {ls st : List zV} {h : zH} {a b off : Int} {tgt : Nat} (d : decode (zMc Y) pc = .ok (.if_icmp .ge off, 3)) (ht : (pc : Int) + off = (tgt : Int)) (hr : zin a) (hq : zin b) (kt : b ≤ a → AW l Y Q k n tgt ls st h) (kf : ¬ b ≤ a → AW l Y Q k n (pc + 3) ls st h) : AW l Y Q k n pc ls (zI b :: zI a :: st) h := by
  intro p e s m args below meth c D dA ad0 h0 A C H locs ad lm hP hE hS hL o1 o2
  have hx := C.1
  have hb := C.2.1
  exact lv_icmp_ge hx hb d ht (fun z => (kt ((zin_le hq hr).mp z)) p e s m args below meth c D dA ad0 h0 A C H locs ad lm hP hE hS hL o1 (zo_tl (zo_tl o2))) (fun z => (kf (fun y => z ((zin_le hq hr).mpr y))) p e s m args below meth c D dA ad0 h0 A C H locs ad lm hP hE hS hL o1 (zo_tl (zo_tl o2)))
theorem e_icmp_gt {l : Launch} {Y : zM} {Q : zO → zH → Prop} {k n pc : Nat} {ls st : List zV} {h : zH} {a b off : Int} {tgt : Nat} (d : decode (zMc Y) pc = .ok (.if_icmp .gt off, 3)) (ht : (pc : Int) + off = (tgt : Int)) (hr : zin a) (hq : zin b) (kt : b < a → AW l Y Q k n tgt ls st h) (kf : ¬ b < a → AW l Y Q k n (pc + 3) ls st h) : AW l Y Q k n pc ls (zI b :: zI a :: st) h := by
  intro p e s m args below meth c D dA ad0 h0 A C H locs ad lm hP hE hS hL o1 o2
  have hx := C.1
  have hb := C.2.1
  exact lv_icmp_gt hx hb d ht (fun z => (kt ((zin_lt hq hr).mp z)) p e s m args below meth c D dA ad0 h0 A C H locs ad lm hP hE hS hL o1 (zo_tl (zo_tl o2))) (fun z => (kf (fun y => z ((zin_lt hq hr).mpr y))) p e s m args below meth c D dA ad0 h0 A C H locs ad lm hP hE hS hL o1 (zo_tl (zo_tl o2)))
theorem e_icmp_le {l : Launch} {Y : zM} {Q : zO → zH → Prop} {k n pc : Nat} {ls st : List zV} {h : zH} {a b off : Int} {tgt : Nat} (d : decode (zMc Y) pc = .ok (.if_icmp .le off, 3)) (ht : (pc : Int) + off = (tgt : Int)) (hr : zin a) (hq : zin b) (kt : a ≤ b → AW l Y Q k n tgt ls st h) (kf : ¬ a ≤ b → AW l Y Q k n (pc + 3) ls st h) : AW l Y Q k n pc ls (zI b :: zI a :: st) h := by
  intro p e s m args below meth c D dA ad0 h0 A C H locs ad lm hP hE hS hL o1 o2
  have hx := C.1
  have hb := C.2.1
  exact lv_icmp_le hx hb d ht (fun z => (kt ((zin_le hr hq).mp z)) p e s m args below meth c D dA ad0 h0 A C H locs ad lm hP hE hS hL o1 (zo_tl (zo_tl o2))) (fun z => (kf (fun y => z ((zin_le hr hq).mpr y))) p e s m args below meth c D dA ad0 h0 A C H locs ad lm hP hE hS hL o1 (zo_tl (zo_tl o2)))
theorem e_acmp_eq {l : Launch} {Y : zM} {Q : zO → zH → Prop} {k n pc : Nat} {ls st : List zV} {h : zH} {r t : Option Nat} {off : Int} {tgt : Nat} (d : decode (zMc Y) pc = .ok (.if_acmp .eq off, 3)) (ht : (pc : Int) + off = (tgt : Int)) (kt : r = t → AW l Y Q k n tgt ls st h) (kf : ¬ r = t → AW l Y Q k n (pc + 3) ls st h) : AW l Y Q k n pc ls (zR t :: zR r :: st) h := by
  intro p e s m args below meth c D dA ad0 h0 A C H locs ad lm hP hE hS hL o1 o2
  have hx := C.1
  have hb := C.2.1
  have h9 : ¬ A (ad 0) := by rw [hE.1 0 (Or.inl (Nat.zero_le 1))]; exact (zS_out C.2.2.2.2.2.2.2.2.2.2.1)
  have hj := zP_inj hP h9 (zo_hd (zo_tl o2)) (zo_hd o2)
  exact lv_acmp_eq hx hb d ht (fun z => (kt (hj.mp z)) p e s m args below meth c D dA ad0 h0 A C H locs ad lm hP hE hS hL o1 (zo_tl (zo_tl o2))) (fun z => (kf (fun y => z (hj.mpr y))) p e s m args below meth c D dA ad0 h0 A C H locs ad lm hP hE hS hL o1 (zo_tl (zo_tl o2)))
theorem e_acmp_ne {l : Launch} {Y : zM} {Q : zO → zH → Prop} {k n pc : Nat} {ls st : List zV} {h : zH} {r t : Option Nat} {off : Int} {tgt : Nat} (d : decode (zMc Y) pc = .ok (.if_acmp .ne off, 3)) (ht : (pc : Int) + off = (tgt : Int)) (kt : ¬ r = t → AW l Y Q k n tgt ls st h) (kf : r = t → AW l Y Q k n (pc + 3) ls st h) : AW l Y Q k n pc ls (zR t :: zR r :: st) h := by
  intro p e s m args below meth c D dA ad0 h0 A C H locs ad lm hP hE hS hL o1 o2
  have hx := C.1
  have hb := C.2.1
  have h9 : ¬ A (ad 0) := by rw [hE.1 0 (Or.inl (Nat.zero_le 1))]; exact (zS_out C.2.2.2.2.2.2.2.2.2.2.1)
  have hj := zP_inj hP h9 (zo_hd (zo_tl o2)) (zo_hd o2)
  exact lv_acmp_ne hx hb d ht (fun z => (kt (fun y => z (hj.mpr y))) p e s m args below meth c D dA ad0 h0 A C H locs ad lm hP hE hS hL o1 (zo_tl (zo_tl o2))) (fun z => (kf (hj.mp z)) p e s m args below meth c D dA ad0 h0 A C H locs ad lm hP hE hS hL o1 (zo_tl (zo_tl o2)))
theorem e_ifnull {l : Launch} {Y : zM} {Q : zO → zH → Prop} {k n pc : Nat} {ls st : List zV} {h : zH} {r : Option Nat} {off : Int} {tgt : Nat} (d : decode (zMc Y) pc = .ok (.ifnull off, 3)) (ht : (pc : Int) + off = (tgt : Int)) (kt : r = none → AW l Y Q k n tgt ls st h) (kf : ∀ a, r = some a → AW l Y Q k n (pc + 3) ls st h) : AW l Y Q k n pc ls (zR r :: st) h := by
  intro p e s m args below meth c D dA ad0 h0 A C H locs ad lm hP hE hS hL o1 o2
  have hx := C.1
  have hb := C.2.1
  cases r with
  | none => exact lv_ifnullN hx hb d ht ((kt rfl) p e s m args below meth c D dA ad0 h0 A C H locs ad lm hP hE hS hL o1 (zo_tl o2))
  | some a => exact lv_ifnull hx hb d ((kf a rfl) p e s m args below meth c D dA ad0 h0 A C H locs ad lm hP hE hS hL o1 (zo_tl o2))
theorem e_ifnonnull {l : Launch} {Y : zM} {Q : zO → zH → Prop} {k n pc : Nat} {ls st : List zV} {h : zH} {r : Option Nat} {off : Int} {tgt : Nat} (d : decode (zMc Y) pc = .ok (.ifnonnull off, 3)) (ht : (pc : Int) + off = (tgt : Int)) (kt : ∀ a, r = some a → AW l Y Q k n tgt ls st h) (kf : r = none → AW l Y Q k n (pc + 3) ls st h) : AW l Y Q k n pc ls (zR r :: st) h := by
  intro p e s m args below meth c D dA ad0 h0 A C H locs ad lm hP hE hS hL o1 o2
  have hx := C.1
  have hb := C.2.1
  cases r with
  | none => exact lv_ifnonnullN hx hb d ((kf rfl) p e s m args below meth c D dA ad0 h0 A C H locs ad lm hP hE hS hL o1 (zo_tl o2))
  | some a => exact lv_ifnonnull hx hb d ht ((kt a rfl) p e s m args below meth c D dA ad0 h0 A C H locs ad lm hP hE hS hL o1 (zo_tl o2))
end
section
/-! the classes' tables -/
def zCn (ci : Nat) : String := match ci with
  | 0 => RJx4a65c
  | 1 => RX0
  | 2 => RX1
  | 3 => RX2
  | 4 => RX3
  | 5 => RX4
  | 6 => RX5
  | 7 => RX6
  | 8 => RX7
  | _ => RX8
def zCt (ci : Nat) : u_T := match ci with
  | 0 => TJx4a65c
  | 1 => TX0
  | 2 => TX1
  | 3 => TX2
  | 4 => TX3
  | 5 => TX4
  | 6 => TX5
  | 7 => TX6
  | 8 => TX7
  | _ => TX8
theorem zCl_at (ci : Nat) (h : ci < 10) : zCl[ci]? = some (zCn ci, zCt ci, zFn ci) := by
  match ci, h with
  | 0, _ => rfl
  | 1, _ => rfl
  | 2, _ => rfl
  | 3, _ => rfl
  | 4, _ => rfl
  | 5, _ => rfl
  | 6, _ => rfl
  | 7, _ => rfl
  | 8, _ => rfl
  | 9, _ => rfl
theorem zTm {w : Cond} (h1 : w ∈ lw_tbl) (h2 : goodWord w = true) : w ∈ zT := List.mem_filter.mpr ⟨h1, h2⟩
theorem zTl {L : List Cond} (h1 : ∀ w ∈ L, w ∈ lw_tbl) (h2 : L.all goodWord = true) : ∀ w ∈ L, w ∈ zT := fun w hw => zTm (h1 w hw) (List.all_eq_true.mp h2 w hw)
theorem zCl_ws (ci : Nat) (h : ci < 10) : ∀ w ∈ u_ws (zCn ci) (zCt ci) (zFn ci), w ∈ zT := by
  match ci, h with
  | 0, _ => exact zTl (by decide +kernel) (by decide +kernel)
  | 1, _ => exact zTl (by decide +kernel) (by decide +kernel)
  | 2, _ => exact zTl (by decide +kernel) (by decide +kernel)
  | 3, _ => exact zTl (by decide +kernel) (by decide +kernel)
  | 4, _ => exact zTl (by decide +kernel) (by decide +kernel)
  | 5, _ => exact zTl (by decide +kernel) (by decide +kernel)
  | 6, _ => exact zTl (by decide +kernel) (by decide +kernel)
  | 7, _ => exact zTl (by decide +kernel) (by decide +kernel)
  | 8, _ => exact zTl (by decide +kernel) (by decide +kernel)
  | 9, _ => exact zTl (by decide +kernel) (by decide +kernel)
theorem zCl_ty (ci : Nat) (h : ci < 10) : ∀ k, k < zFn ci → parseFieldDescriptor (zCt ci k).2.2.1 = some (zTy ci k) := by
  match ci, h with
  | 0, _ => exact tyJx4a65c_ok
  | 1, _ => exact tyX0_ok
  | 2, _ => exact tyX1_ok
  | 3, _ => exact tyX2_ok
  | 4, _ => exact tyX3_ok
  | 5, _ => exact tyX4_ok
  | 6, _ => exact tyX5_ok
  | 7, _ => exact tyX6_ok
  | 8, _ => exact tyX7_ok
  | 9, _ => exact tyX8_ok
theorem zCl_nm (ci : Nat) (h : ci < 10) : ∀ a, a < zFn ci → ∀ b, b < zFn ci → a ≠ b → (zCt ci a).2.1 ≠ (zCt ci b).2.1 := by
  match ci, h with
  | 0, _ => exact nmJx4a65c
  | 1, _ => exact nmX0
  | 2, _ => exact nmX1
  | 3, _ => exact nmX2
  | 4, _ => exact nmX3
  | 5, _ => exact nmX4
  | 6, _ => exact nmX5
  | 7, _ => exact nmX6
  | 8, _ => exact nmX7
  | 9, _ => exact nmX8
/-- a field of the world's classes, as a method of 'own' links it -/
def zFL (own : String) (idx ci k f : Nat) : Prop := ci < 10 ∧ k < zFn ci ∧ f = 100 * ci + k ∧ ∃ ref : String, Cond.fieldLink own idx ref (zCt ci k).2.1 (zCt ci k).2.2.1 ∈ zT ∧ (ref = (zCt ci k).1 ∨ Cond.sameField ref (zCt ci k).1 (zCt ci k).2.1 (zCt ci k).2.2.1 ∈ zT)
/-- 1 a reference, 2 a long, 0 an int or smaller -/
def zIs (ty : FieldType) : Nat := match ty with
  | .object _ => 1
  | .array _ => 1
  | .long => 2
  | .float => 3
  | .double => 3
  | _ => 0
theorem zFv_I {ad : Nat → Nat} {h : zH} {ty : FieldType} {i n : Nat} (ht : zIs ty = 0) : zFv ad h ty i n = .int (Int32.ofInt (zf h i n)) := by
  cases ty <;> first | rfl | cases ht
theorem zFv_R {ad : Nat → Nat} {h : zH} {ty : FieldType} {i n : Nat} (ht : zIs ty = 1) : zFv ad h ty i n = va_rf ((zr h i n).map ad) := by
  cases ty <;> first | rfl | cases ht
theorem zFv_L {ad : Nat → Nat} {h : zH} {ty : FieldType} {i n : Nat} (ht : zIs ty = 2) : zFv ad h ty i n = .long (Int64.ofInt (zl h i n)) := by
  cases ty <;> first | rfl | cases ht
theorem zOb_at {ad : Nat → Nat} {h : zH} {ci n k : Nat} (hk : k < zFn ci) : (zOb ad h ci n)[k]? = some (zFv ad h (zTy ci k) (100 * ci + k) n) := by
  rw [zOb, List.getElem?_map, List.getElem?_range hk]
  rfl
theorem zOb_len {ad : Nat → Nat} {h : zH} {ci n : Nat} : (zOb ad h ci n).length = zFn ci := by
  rw [zOb, List.length_map, List.length_range]
theorem zOb_set {ad : Nat → Nat} {h h' : zH} {ci n k : Nat} {v : Value} (hv : zFv ad h' (zTy ci k) (100 * ci + k) n = v) (ho : ∀ j, j ≠ k → zFv ad h' (zTy ci j) (100 * ci + j) n = zFv ad h (zTy ci j) (100 * ci + j) n) : (zOb ad h ci n).set k v = zOb ad h' ci n := by
  apply List.ext_getElem?
  intro j
  rw [List.getElem?_set]
  by_cases e : k = j
  · subst e
    rw [if_pos rfl]
    by_cases hk : k < zFn ci
    · rw [zOb_at hk, hv, if_pos (by rw [zOb_len]; exact hk)]
    · rw [if_neg (by rw [zOb_len]; exact hk)]
      exact (List.getElem?_eq_none (by rw [zOb_len]; omega)).symm
  · rw [if_neg e]
    by_cases hj : j < zFn ci
    · rw [zOb_at hj, zOb_at hj, ho j (fun z => e z.symm)]
    · rw [List.getElem?_eq_none (by rw [zOb_len]; omega), List.getElem?_eq_none (by rw [zOb_len]; omega)]
theorem zEn_congr {dA : Nat → ClassId} {ad ad' : Nat → Nat} {h h' : zH} {n : Nat} (e1 : zK h' n = zK h n) (e2 : zN h' n = zN h n) (e3 : ∀ i, zf h' i n = zf h i n) (e4 : ∀ j, za h' n j = za h n j) (e5 : ∀ i, (zr h' i n).map ad' = (zr h i n).map ad) (e6 : ∀ j, (zq h' n j).map ad' = (zq h n j).map ad) (e7 : ∀ i, zl h' i n = zl h i n) (e8 : ∀ j, zm h' n j = zm h n j) (e9 : ∀ j, zd h' n j = zd h n j) : zEn dA ad' h' n = zEn dA ad h n := by
  have a1 : zOb ad' h' (zK h n - 1) n = zOb ad h (zK h n - 1) n := by
    apply List.ext_getElem?
    intro j
    by_cases hj : j < zFn (zK h n - 1)
    · rw [zOb_at hj, zOb_at hj]
      congr 1
      unfold zFv
      split <;> simp only [e3, e5, e7]
    · rw [List.getElem?_eq_none (by rw [zOb_len]; omega), List.getElem?_eq_none (by rw [zOb_len]; omega)]
  have a2 : zRw ad' h' (zK h n - 100) n = zRw ad h (zK h n - 100) n := by
    unfold zRw
    split <;> simp only [e2, e4, e6, e8, e9]
  unfold zEn
  rw [e1, a1, a2]
theorem zEn_o {dA : Nat → ClassId} {ad : Nat → Nat} {h : zH} {n ci : Nat} (hK : zK h n = ci + 1) (hc : ci < 10) : zEn dA ad h n = .inr (ci, zOb ad h ci n) := by
  unfold zEn
  rw [if_pos (by omega), hK, Nat.add_sub_cancel]
theorem zEn_r {dA : Nat → ClassId} {ad : Nat → Nat} {h : zH} {n t : Nat} (hK : zK h n = 100 + t) : zEn dA ad h n = .inl (dA t, zRw ad h t n) := by
  unfold zEn
  rw [if_neg (by omega), hK, Nat.add_sub_cancel_left]
theorem zW_at {dA : Nat → ClassId} {ad : Nat → Nat} {h : zH} {L : List Nat} {q0 n : Nat} (hq : L[q0]? = some n) : (zW dA ad h L)[q0]? = some (ad n, zEn dA ad h n) := by
  rw [zW, List.getElem?_map, hq]
  rfl
theorem zW_set {A : Nat → Prop} {dA : Nat → ClassId} {ad : Nat → Nat} {h h' : zH} {L : List Nat} {q0 n : Nat} {E : va_E} (hD : va_D A (zW dA ad h L)) (hq : L[q0]? = some n) (hE : zEn dA ad h' n = E) (ho : ∀ m, m ≠ n → zEn dA ad h' m = zEn dA ad h m) : (zW dA ad h L).set q0 (ad n, E) = zW dA ad h' L := by
  apply List.ext_getElem?
  intro j
  rw [List.getElem?_set]
  by_cases e : q0 = j
  · subst e
    rw [if_pos rfl, zW_at hq, hE]
    rw [if_pos]
    rw [zW, List.length_map]
    exact (List.getElem?_eq_some_iff.mp hq).1
  · rw [if_neg e]
    cases hj : L[j]? with
    | none =>
      rw [zW, zW, List.getElem?_map, List.getElem?_map, hj]
      rfl
    | some m =>
      rw [zW_at hj, zW_at hj, ho m]
      intro z
      subst z
      exact e (hD.1 q0 j _ _ (zW_at hq) (zW_at hj) rfl)
theorem zW_push {dA : Nat → ClassId} {ad ad' : Nat → Nat} {h h' : zH} {L : List Nat} {n q : Nat} {E : va_E} (hq : ad' n = q) (hE : zEn dA ad' h' n = E) (ho : ∀ m ∈ L, ad' m = ad m ∧ zEn dA ad' h' m = zEn dA ad h m) : zW dA ad h L ++ [(q, E)] = zW dA ad' h' (L ++ [n]) := by
  rw [zW, zW, List.map_append]
  congr 1
  · exact List.map_congr_left (fun m hm => by rw [(ho m hm).1, (ho m hm).2])
  · simp only [List.map_cons, List.map_nil, hq, hE]
/-- what a name in use stands for -/
theorem zP_at {s : State} {D : va_G} {dA : Nat → ClassId} {A : Nat → Prop} {ad : Nat → Nat} {h : zH} {H : Heap} (hP : zP s D dA A ad h H) {n : Nat} (hn : zK h n ≠ 0) : ∃ (L : List Nat) (tys : List (ClassId × FieldType)) (q0 : Nat), va_K D zCl tys s ∧ (∀ n, n ∈ L ↔ zK h n ≠ 0) ∧ (∀ n ∈ L, 100 ≤ zK h n → (dA (zK h n - 100), zAt (zK h n - 100)) ∈ tys) ∧ va_P D zCl (zW dA ad h L) H ∧ va_D A (zW dA ad h L) ∧ L[q0]? = some n := by
  obtain ⟨-, L, tys, h1, h2, h3, h4, h5⟩ := hP
  obtain ⟨q0, hq⟩ := List.getElem?_of_mem ((h2 n).mpr hn)
  exact ⟨L, tys, q0, h1, h2, h3, h4, h5, hq⟩
/-- a store keeps the world -/
theorem zP_stored {s : State} {D : va_G} {dA : Nat → ClassId} {A : Nat → Prop} {ad : Nat → Nat} {h h' : zH} {H1 : Heap} {L : List Nat} {tys : List (ClassId × FieldType)} {q0 n : Nat} {E : va_E} (hG : zG h') (hK1 : ∀ m, zK h' m = zK h m) (h1 : va_K D zCl tys s) (h2 : ∀ n, n ∈ L ↔ zK h n ≠ 0) (h3 : ∀ n ∈ L, 100 ≤ zK h n → (dA (zK h n - 100), zAt (zK h n - 100)) ∈ tys) (hD : va_D A (zW dA ad h L)) (hq : L[q0]? = some n) (hE : zEn dA ad h' n = E) (ho : ∀ m, m ≠ n → zEn dA ad h' m = zEn dA ad h m)
    (hP1 : va_P D zCl ((zW dA ad h L).set q0 (ad n, E)) H1) (hD1 : va_D A ((zW dA ad h L).set q0 (ad n, E))) : zP s D dA A ad h' H1 := by
  rw [zW_set hD hq hE ho] at hP1 hD1
  exact ⟨hG, L, tys, h1, fun m => by rw [hK1]; exact h2 m, fun m hm => by rw [hK1]; exact h3 m hm, hP1, hD1⟩
theorem zE_st {h0 h h' : zH} {ad0 ad : Nat → Nat} (a : zE h0 ad0 h ad) (hK1 : ∀ m, zK h' m = zK h m) : zE h0 ad0 h' ad := ⟨a.1, fun n hn => (hK1 n).trans (a.2 n hn)⟩
theorem zok_st {h h' : zH} {r : Option Nat} (hK1 : ∀ m, zK h' m = zK h m) (a : zok h r) : zok h' r := fun n hn => by rw [hK1]; exact a n hn
theorem zokv_st {h h' : zH} {v : zV} (hK1 : ∀ m, zK h' m = zK h m) (a : zokv h v) : zokv h' v := by
  rcases v with z | r | z | u | u | u
  · trivial
  · exact zok_st hK1 a
  · trivial
  · trivial
  · trivial
  · trivial
theorem zos_st {h h' : zH} {vs : List zV} (hK1 : ∀ m, zK h' m = zK h m) (a : ∀ v ∈ vs, zokv h v) : ∀ v ∈ vs, zokv h' v := fun v hv => zokv_st hK1 (a v hv)
theorem z2_eq {α : Type} {f : Nat → Nat → α} {i n : Nat} {v : α} : z2 f i n v i n = v := if_pos ⟨rfl, rfl⟩
theorem z2_ni {α : Type} {f : Nat → Nat → α} {i n j m : Nat} {v : α} (h : j ≠ i) : z2 f i n v j m = f j m := if_neg (fun z => h z.1)
theorem z2_nn {α : Type} {f : Nat → Nat → α} {i n j m : Nat} {v : α} (h : m ≠ n) : z2 f i n v j m = f j m := if_neg (fun z => h z.2)
theorem z3_eq {α : Type} {f : Nat → Int → α} {n : Nat} {i : Int} {v : α} : z3 f n i v n i = v := if_pos ⟨rfl, rfl⟩
theorem z3_nn {α : Type} {f : Nat → Int → α} {n m : Nat} {i j : Int} {v : α} (h : m ≠ n) : z3 f n i v m j = f m j := if_neg (fun z => h z.1)
theorem z3_ni {α : Type} {f : Nat → Int → α} {n m : Nat} {i j : Int} {v : α} (h : j ≠ i) : z3 f n i v m j = f m j := if_neg (fun z => h z.2)
theorem zG_sf {h : zH} {i n : Nat} {z : Int} (g : zG h) (hz : zin z) : zG (sf h i n z) := by
  obtain ⟨g1, g2⟩ := g
  refine ⟨fun j m => ?_, g2⟩
  show zin (z2 (zf h) i n z j m)
  unfold z2
  split
  · exact hz
  · exact g1 j m
theorem zG_sa {h : zH} {n : Nat} {i z : Int} (g : zG h) (hz : zin z) (hb : zK h n = 101 → z = 0 ∨ z = 1) : zG (sa h n i z) := by
  obtain ⟨g1, g2, g3, g4, g5, g6, g7, g8⟩ := g
  refine ⟨g1, fun m j => ?_, g3, g4, g5, g6, g7, fun m j hm => ?_⟩
  · show zin (z3 (za h) n i z m j)
    unfold z3
    split
    · exact hz
    · exact g2 m j
  · show z3 (za h) n i z m j = 0 ∨ z3 (za h) n i z m j = 1
    unfold z3
    split
    · rename_i e
      obtain ⟨rfl, rfl⟩ := e
      exact hb hm
    · exact g8 m j hm
theorem zG_sr {h : zH} {i n : Nat} {r : Option Nat} (g : zG h) (hr : zok h r) : zG (sr h i n r) := by
  obtain ⟨g1, g2, g3, g4⟩ := g
  refine ⟨g1, g2, fun j m => ?_, g4⟩
  show zok h (z2 (zr h) i n r j m)
  unfold z2
  split
  · exact hr
  · exact g3 j m
theorem zG_sq {h : zH} {n : Nat} {i : Int} {r : Option Nat} (g : zG h) (hr : zok h r) : zG (sq h n i r) := by
  obtain ⟨g1, g2, g3, g4, g5⟩ := g
  refine ⟨g1, g2, g3, fun m j => ?_, g5⟩
  show zok h (z3 (zq h) n i r m j)
  unfold z3
  split
  · exact hr
  · exact g4 m j
theorem zG_sl {h : zH} {i n : Nat} {z : Int} (g : zG h) : zG (sl h i n z) := g
theorem zG_sm {h : zH} {n : Nat} {i z : Int} (g : zG h) : zG (sm h n i z) := g
theorem zG_sd {h : zH} {n : Nat} {i : Int} {z : UInt64} (g : zG h) : zG (sd h n i z) := g
end
section
/-! rows that read and write the heap -/
theorem e_getf {l : Launch} {Y : zM} {Q : zO → zH → Prop} {k n pc : Nat} {ls st : List zV} {h : zH} {idx ci kf f a : Nat} {v : zV} (d : decode (zMc Y) pc = .ok (.getfield idx, 3)) (F : zFL (zMy Y).cls idx ci kf f) (hK : zK h a = ci + 1) (hv : ∀ ad, zFv ad h (zTy ci kf) f a = zc ad v) (hov : zokv h v) (K : AW l Y Q k n (pc + 3) ls (v :: st) h) : AW l Y Q k n pc ls (zR (some a) :: st) h := by
  intro p e s m args below meth c D dA ad0 h0 A C H locs ad lm hP hE hS hL o1 o2
  have hx := C.1
  have hb := C.2.1
  have K := K p e s m args below meth c D dA ad0 h0 A C H locs ad lm hP hE hS hL o1 (zo_cons hov (zo_tl o2))
  obtain ⟨hci, hkf, hf, ref, hlink, hsame⟩ := F
  obtain ⟨L, tys, q0, h1, h2, h3, h4, h5, hq⟩ := zP_at hP (n := a) (by rw [hK]; omega)
  have hT := C.2.2.2.2.2.1
  subst hf
  refine va_get hx hb hT (zCl_ws ci hci) C.2.2.2.2.1 h1 h4 q0 ((zW_at hq).trans (by rw [zEn_o hK hci])) (zCl_at ci hci) kf hkf (hT _ hlink) ?_ (zOb_at hkf) d ?_
  · rcases hsame with hs | hs
    · intro x hx; rw [hs]; exact hx
    · exact u_same (hT _ hs)
  · rw [hv ad]
    exact K
theorem e_getI {l : Launch} {Y : zM} {Q : zO → zH → Prop} {k n pc : Nat} {ls st : List zV} {h : zH} {idx ci kf f a : Nat} {z : Int} (d : decode (zMc Y) pc = .ok (.getfield idx, 3)) (F : zFL (zMy Y).cls idx ci kf f) (ht : zIs (zTy ci kf) = 0) (hK : zK h a = ci + 1) (hz : zf h f a = z) (K : zin z → AW l Y Q k n (pc + 3) ls (zI z :: st) h) : AW l Y Q k n pc ls (zR (some a) :: st) h := by
  intro p e s m args below meth c D dA ad0 h0 A C H locs ad lm hP
  exact e_getf d F hK (v := zI z) (fun ad => by rw [zFv_I ht, hz]; rfl) trivial (K (hz ▸ hP.1.1 f a)) p e s m args below meth c D dA ad0 h0 A C H locs ad lm hP
theorem e_getR {l : Launch} {Y : zM} {Q : zO → zH → Prop} {k n pc : Nat} {ls st : List zV} {h : zH} {idx ci kf f a : Nat} {r : Option Nat} (d : decode (zMc Y) pc = .ok (.getfield idx, 3)) (F : zFL (zMy Y).cls idx ci kf f) (ht : zIs (zTy ci kf) = 1) (hK : zK h a = ci + 1) (hz : zr h f a = r) (K : AW l Y Q k n (pc + 3) ls (zR r :: st) h) : AW l Y Q k n pc ls (zR (some a) :: st) h := by
  intro p e s m args below meth c D dA ad0 h0 A C H locs ad lm hP
  exact e_getf d F hK (v := zR r) (fun ad => by rw [zFv_R ht, hz]; rfl) (hz ▸ hP.1.2.2.1 f a) K p e s m args below meth c D dA ad0 h0 A C H locs ad lm hP
theorem e_getL {l : Launch} {Y : zM} {Q : zO → zH → Prop} {k n pc : Nat} {ls st : List zV} {h : zH} {idx ci kf f a : Nat} {z : Int} (d : decode (zMc Y) pc = .ok (.getfield idx, 3)) (F : zFL (zMy Y).cls idx ci kf f) (ht : zIs (zTy ci kf) = 2) (hK : zK h a = ci + 1) (hz : zl h f a = z) (K : AW l Y Q k n (pc + 3) ls (zL z :: st) h) : AW l Y Q k n pc ls (zR (some a) :: st) h :=
  e_getf d F hK (v := zL z) (fun ad => by rw [zFv_L ht, hz]; rfl) trivial K
theorem zFv_congr {ad : Nat → Nat} {h h' : zH} {ty : FieldType} {i n : Nat} (e1 : zf h' i n = zf h i n) (e2 : zr h' i n = zr h i n) (e3 : zl h' i n = zl h i n) : zFv ad h' ty i n = zFv ad h ty i n := by
  unfold zFv
  rw [e1, e2, e3]
/-- may this method write this field -/
def zMay (Y : zM) (ci kf : Nat) : Prop := (zCt ci kf).2.2.2 = false ∨ ((zCt ci kf).2.2.2 = true ∧ (zMy Y).name = "<init>" ∧ (zCt ci kf).1 = (zMy Y).cls)
theorem e_putf {l : Launch} {Y : zM} {Q : zO → zH → Prop} {k n pc : Nat} {ls st : List zV} {h h' : zH} {idx ci kf f a : Nat} {v : zV} (d : decode (zMc Y) pc = .ok (.putfield idx, 3)) (F : zFL (zMy Y).cls idx ci kf f) (hm : zMay Y ci kf) (hK : zK h a = ci + 1) (hn : ∀ ad, narrow (zTy ci kf) (zc ad v) = zc ad v) (hfit : ∀ ad, fits (zTy ci kf) (zc ad v) = true) (hG : zG h → zokv h v → zG h') (hKs : ∀ m, zK h' m = zK h m) (hv : ∀ ad, zFv ad h' (zTy ci kf) f a = zc ad v) (ho1 : ∀ ad j, j ≠ kf → zFv ad h' (zTy ci j) (100 * ci + j) a = zFv ad h (zTy ci j) (100 * ci + j) a) (ho2 : ∀ dA ad m, m ≠ a → zEn dA ad h' m = zEn dA ad h m) (K : AW l Y Q k n (pc + 3) ls st h') : AW l Y Q k n pc ls (v :: zR (some a) :: st) h := by
  intro p e s m args below meth c D dA ad0 h0 A C H locs ad lm hP hE hS hL o1 o2
  have hx := C.1
  have hb := C.2.1
  obtain ⟨hci, hkf, hf, ref, hlink, hsame⟩ := F
  obtain ⟨L, tys, q0, h1, h2, h3, h4, h5, hq⟩ := zP_at hP (n := a) (by rw [hK]; omega)
  have hT := C.2.2.2.2.2.1
  subst hf
  have hs9 : ∀ x, s.fieldFound? (zCt ci kf).1 (zCt ci kf).2.1 (zCt ci kf).2.2.1 = some x → s.fieldFound? ref (zCt ci kf).2.1 (zCt ci kf).2.2.1 = some x := by
    rcases hsame with hs | hs
    · intro x hx; rw [hs]; exact hx
    · exact u_same (hT _ hs)
  have key : ∀ (H1 : Heap) (locs1 : List Loc), va_P D zCl ((zW dA ad h L).set q0 (ad a, .inr (ci, (zOb ad h ci a).set kf (zc ad v)))) H1 → va_D A ((zW dA ad h L).set q0 (ad a, .inr (ci, (zOb ad h ci a).set kf (zc ad v)))) → va_S A s.heap H1 locs1 →
      W p l e (zMr Y) s m args below meth c H1 locs1 k n (vx_MQ below (zQc D dA ad0 h0 Q A) (zXc D dA ad0 h0 Q A) args s (zMr Y).cells (zMr Y).slots A) (F0 m (pc + 3) lm (st.map (zc ad))) := by
    intro H1 locs1 p1 p2 p3
    have e1 : zEn dA ad h' a = .inr (ci, (zOb ad h ci a).set kf (zc ad v)) := by
      rw [zEn_o ((hKs a).trans hK) hci, zOb_set (hv ad) (ho1 ad)]
    exact K p e s m args below meth c D dA ad0 h0 A C H1 locs1 ad lm (zP_stored (hG hP.1 (zo_hd o2)) hKs h1 h2 h3 h5 hq e1 (ho2 dA ad) p1 p2) (zE_st hE hKs) p3 hL (zos_st hKs o1) (zos_st hKs (zo_tl (zo_tl o2)))
  have hq9 := (zW_at (dA := dA) (ad := ad) (h := h) hq).trans (by rw [zEn_o hK hci])
  rcases hm with hm | ⟨hm1, hm2, hm3⟩
  · exact va_put hx hb hT (zCl_ws ci hci) (zTy ci) (zCl_ty ci hci) (zCl_nm ci hci) C.2.2.2.2.1 h1 h4 h5 hS q0 hq9 (zCl_at ci hci) kf hkf (hT _ hlink) hs9 hm (zCl_ty ci hci kf hkf) (hn ad) (hfit ad) (by rw [zOb_len]; exact hkf) d key
  · exact va_putF hx hb hT (zCl_ws ci hci) (zTy ci) (zCl_ty ci hci) (zCl_nm ci hci) C.2.2.2.2.1 h1 h4 h5 hS q0 hq9 (zCl_at ci hci) kf hkf (hT _ hlink) hs9 hm1 (C.2.2.2.2.2.2.2.1.trans hm2) hm3 (zCl_ty ci hci kf hkf) (hn ad) (hfit ad) (by rw [zOb_len]; exact hkf) d key
/-- what fits a field of this type -/
def zfit (ty : FieldType) (z : Int) : Prop := match ty with
  | .int => True
  | .boolean => z = 0 ∨ z = 1
  | .char => 0 ≤ z ∧ z < 65536
  | _ => False
theorem zfit_ok {ty : FieldType} {z : Int} (h : zfit ty z) : narrow ty (.int (Int32.ofInt z)) = .int (Int32.ofInt z) ∧ fits ty (.int (Int32.ofInt z)) = true := by
  cases ty <;> first | (exact False.elim h) | exact ⟨rfl, rfl⟩ | skip
  · obtain ⟨q, rfl⟩ := Int.eq_ofNat_of_zero_le h.1
    have h2 : q < 65536 := by have := h.2; omega
    have := pk_charN h2
    unfold nI at this
    rwa [← Int32.ofInt_eq_ofNat] at this
  · rcases h with h | h <;> subst h <;> exact ⟨by decide, by decide⟩
theorem e_putI {l : Launch} {Y : zM} {Q : zO → zH → Prop} {k n pc : Nat} {ls st : List zV} {h : zH} {idx ci kf f a : Nat} {z : Int} (d : decode (zMc Y) pc = .ok (.putfield idx, 3)) (F : zFL (zMy Y).cls idx ci kf f) (hm : zMay Y ci kf) (hfi : zfit (zTy ci kf) z) (hK : zK h a = ci + 1) (hz : zin z) (K : AW l Y Q k n (pc + 3) ls st (sf h f a z)) : AW l Y Q k n pc ls (zI z :: zR (some a) :: st) h := by
  have ht : zIs (zTy ci kf) = 0 := by
    cases hty : zTy ci kf <;> rw [hty] at hfi <;> first | rfl | (exact False.elim hfi)
  have hf := F.2.2.1
  refine e_putf d F hm hK (fun ad => (zfit_ok hfi).1) (fun ad => (zfit_ok hfi).2) (fun g _ => zG_sf g hz) (fun _ => rfl) (fun ad => ?_) (fun ad j hj => ?_) (fun dA ad m hm => ?_) K
  · rw [zFv_I ht]
    show Value.int (Int32.ofInt (z2 (zf h) f a z f a)) = _
    rw [z2_eq]
    rfl
  · exact zFv_congr (z2_ni (by omega)) rfl rfl
  · exact zEn_congr rfl rfl (fun i => z2_nn hm) (fun _ => rfl) (fun _ => rfl) (fun _ => rfl) (fun _ => rfl) (fun _ => rfl) (fun _ => rfl)
theorem zrf_fit {ty : FieldType} {ad : Nat → Nat} {r : Option Nat} (ht : zIs ty = 1) : narrow ty (zc ad (zR r)) = zc ad (zR r) ∧ fits ty (zc ad (zR r)) = true := by
  cases ty <;> first | (cases ht; done) | (cases r <;> exact ⟨rfl, rfl⟩)
theorem e_putR {l : Launch} {Y : zM} {Q : zO → zH → Prop} {k n pc : Nat} {ls st : List zV} {h : zH} {idx ci kf f a : Nat} {r : Option Nat} (d : decode (zMc Y) pc = .ok (.putfield idx, 3)) (F : zFL (zMy Y).cls idx ci kf f) (hm : zMay Y ci kf) (ht : zIs (zTy ci kf) = 1) (hK : zK h a = ci + 1) (K : AW l Y Q k n (pc + 3) ls st (sr h f a r)) : AW l Y Q k n pc ls (zR r :: zR (some a) :: st) h := by
  have hf := F.2.2.1
  refine e_putf d F hm hK (fun ad => (zrf_fit ht).1) (fun ad => (zrf_fit ht).2) (fun g o => zG_sr g o) (fun _ => rfl) (fun ad => ?_) (fun ad j hj => ?_) (fun dA ad m hm => ?_) K
  · rw [zFv_R ht]
    show va_rf ((z2 (zr h) f a r f a).map ad) = _
    rw [z2_eq]
    rfl
  · exact zFv_congr rfl (z2_ni (by omega)) rfl
  · exact zEn_congr rfl rfl (fun _ => rfl) (fun _ => rfl) (fun i => by show (z2 (zr h) f a r i m).map ad = _; rw [z2_nn hm]) (fun _ => rfl) (fun _ => rfl) (fun _ => rfl) (fun _ => rfl)
theorem e_putL {l : Launch} {Y : zM} {Q : zO → zH → Prop} {k n pc : Nat} {ls st : List zV} {h : zH} {idx ci kf f a : Nat} {z : Int} (d : decode (zMc Y) pc = .ok (.putfield idx, 3)) (F : zFL (zMy Y).cls idx ci kf f) (hm : zMay Y ci kf) (ht : zTy ci kf = .long) (hK : zK h a = ci + 1) (K : AW l Y Q k n (pc + 3) ls st (sl h f a z)) : AW l Y Q k n pc ls (zL z :: zR (some a) :: st) h := by
  have hf := F.2.2.1
  refine e_putf d F hm hK (fun ad => by rw [ht]; rfl) (fun ad => by rw [ht]; rfl) (fun g o => zG_sl g) (fun _ => rfl) (fun ad => ?_) (fun ad j hj => ?_) (fun dA ad m hm => ?_) K
  · rw [zFv_L (by rw [ht]; rfl)]
    show Value.long (Int64.ofInt (z2 (zl h) f a z f a)) = _
    rw [z2_eq]
    rfl
  · exact zFv_congr rfl rfl (z2_ni (by omega))
  · exact zEn_congr rfl rfl (fun _ => rfl) (fun _ => rfl) (fun _ => rfl) (fun _ => rfl) (fun i => z2_nn hm) (fun _ => rfl) (fun _ => rfl)
theorem zcl {i : Int} (h0 : 0 ≤ i) (h1 : zin i) : (Int32.ofInt i).toNatClampNeg = i.toNat := by
  obtain ⟨q, rfl⟩ := Int.eq_ofNat_of_zero_le h0
  have := h1.2
  rw [Int32.ofInt_eq_ofNat, Int32.toNatClampNeg_ofNat_of_lt (by omega)]
  rfl
theorem zvin {i : Int} {h : zH} {a : Nat} (hG : zG h) (h0 : 0 ≤ i) (h1 : i < zN h a) : vp_in (Int32.ofInt i) (zN h a).toNat ∧ (((Int32.ofInt i).toNatClampNeg : Nat) : Int) = i ∧ zin i := by
  have hz := hG.2.2.2.2.1 a
  have hi : zin i := ⟨by omega, by omega⟩
  refine ⟨?_, ?_, hi⟩
  · unfold vp_in
    rw [zcl h0 hi]
    intro z
    rcases z with z | z
    · have := (zin_lt hi zin_0).mp z
      omega
    · omega
  · rw [zcl h0 hi]
    omega
theorem zidx {tys : List (ClassId × FieldType)} {q : ClassId × FieldType} (h : q ∈ tys) : ∃ t0 : Nat, tys[t0]? = some q := List.getElem?_of_mem h
theorem zP_row {s : State} {D : va_G} {dA : Nat → ClassId} {A : Nat → Prop} {ad : Nat → Nat} {h : zH} {H : Heap} (hP : zP s D dA A ad h H) {n t : Nat} (hn : zK h n = 100 + t) : ∃ (L : List Nat) (tys : List (ClassId × FieldType)) (q0 t0 : Nat), va_K D zCl tys s ∧ (∀ n, n ∈ L ↔ zK h n ≠ 0) ∧ (∀ n ∈ L, 100 ≤ zK h n → (dA (zK h n - 100), zAt (zK h n - 100)) ∈ tys) ∧ va_P D zCl (zW dA ad h L) H ∧ va_D A (zW dA ad h L) ∧ L[q0]? = some n ∧ tys[t0]? = some (dA t, zAt t) ∧ (zW dA ad h L)[q0]? = some (ad n, .inl (dA t, zRw ad h t n)) := by
  obtain ⟨L, tys, q0, h1, h2, h3, h4, h5, hq⟩ := zP_at hP (n := n) (by rw [hn]; omega)
  have h9 := h3 n (List.mem_of_getElem? hq) (by omega)
  rw [hn, Nat.add_sub_cancel_left] at h9
  obtain ⟨t0, ht0⟩ := zidx h9
  exact ⟨L, tys, q0, t0, h1, h2, h3, h4, h5, hq, ht0, (zW_at hq).trans (by rw [zEn_r hn])⟩
theorem e_iald {l : Launch} {Y : zM} {Q : zO → zH → Prop} {k n pc : Nat} {ls st : List zV} {h : zH} {a : Nat} {i z : Int} (d : decode (zMc Y) pc = .ok (.iaload, 1)) (hK : zK h a = 100) (hi0 : 0 ≤ i) (hi1 : i < zN h a) (hz : za h a i = z) (K : zin z → AW l Y Q k n (pc + 1) ls (zI z :: st) h) : AW l Y Q k n pc ls (zI i :: zR (some a) :: st) h := by
  intro p e s m args below meth c D dA ad0 h0 A C H locs ad lm hP hE hS hL o1 o2
  have hx := C.1
  have hb := C.2.1
  have K := K (hz ▸ hP.1.2.1 a i) p e s m args below meth c D dA ad0 h0 A C H locs ad lm hP hE hS hL o1 (zo_cons trivial (zo_tl (zo_tl o2)))
  obtain ⟨L, tys, q0, t0, h1, h2, h3, h4, h5, hq, ht0, hw⟩ := zP_row hP (t := 0) hK
  obtain ⟨v1, v2, v3⟩ := zvin hP.1 hi0 hi1
  refine va_iald hx hb h1 h4 q0 t0 hw ht0 v1 d ?_
  rw [v2, hz]
  exact K
theorem e_zald {l : Launch} {Y : zM} {Q : zO → zH → Prop} {k n pc : Nat} {ls st : List zV} {h : zH} {a : Nat} {i z : Int} (d : decode (zMc Y) pc = .ok (.baload, 1)) (hK : zK h a = 101) (hi0 : 0 ≤ i) (hi1 : i < zN h a) (hz : za h a i = z) (K : (z = 0 ∨ z = 1) → AW l Y Q k n (pc + 1) ls (zI z :: st) h) : AW l Y Q k n pc ls (zI i :: zR (some a) :: st) h := by
  intro p e s m args below meth c D dA ad0 h0 A C H locs ad lm hP hE hS hL o1 o2
  have hx := C.1
  have hb := C.2.1
  have K := K (hz ▸ hP.1.2.2.2.2.2.2.2 a i hK) p e s m args below meth c D dA ad0 h0 A C H locs ad lm hP hE hS hL o1 (zo_cons trivial (zo_tl (zo_tl o2)))
  obtain ⟨L, tys, q0, t0, h1, h2, h3, h4, h5, hq, ht0, hw⟩ := zP_row hP (t := 1) hK
  obtain ⟨v1, v2, v3⟩ := zvin hP.1 hi0 hi1
  refine va_zald hx hb h1 h4 q0 t0 hw ht0 v1 d ?_
  rw [v2, hz]
  exact K
theorem zEn_sa {dA : Nat → ClassId} {ad : Nat → Nat} {h : zH} {n m : Nat} {i z : Int} (hm : m ≠ n) : zEn dA ad (sa h n i z) m = zEn dA ad h m :=
  zEn_congr rfl rfl (fun _ => rfl) (fun j => z3_nn hm) (fun _ => rfl) (fun _ => rfl) (fun _ => rfl) (fun _ => rfl) (fun _ => rfl)
theorem zup_a {h : zH} {a : Nat} {i z : Int} (h0 : 0 ≤ i) : (fun j : Nat => Int32.ofInt (za (sa h a i z) a (j : Int))) = upd (fun j : Nat => Int32.ofInt (za h a (j : Int))) i.toNat (Int32.ofInt z) := by
  funext j
  show Int32.ofInt (z3 (za h) a i z a j) = _
  unfold upd z3
  by_cases e : (j : Int) = i
  · rw [if_pos ⟨rfl, e⟩, if_pos (by omega)]
  · rw [if_neg (fun y => e y.2), if_neg (by omega)]
theorem e_iast {l : Launch} {Y : zM} {Q : zO → zH → Prop} {k n pc : Nat} {ls st : List zV} {h : zH} {a : Nat} {i z : Int} (d : decode (zMc Y) pc = .ok (.iastore, 1)) (hK : zK h a = 100) (hi0 : 0 ≤ i) (hi1 : i < zN h a) (hz : zin z) (K : AW l Y Q k n (pc + 1) ls st (sa h a i z)) : AW l Y Q k n pc ls (zI z :: zI i :: zR (some a) :: st) h := by
  intro p e s m args below meth c D dA ad0 h0 A C H locs ad lm hP hE hS hL o1 o2
  have hx := C.1
  have hb := C.2.1
  obtain ⟨L, tys, q0, t0, h1, h2, h3, h4, h5, hq, ht0, hw⟩ := zP_row hP (t := 0) hK
  obtain ⟨v1, v2, v3⟩ := zvin hP.1 hi0 hi1
  refine va_iast hx hb h1 h4 h5 hS q0 t0 hw ht0 v1 d (fun H1 locs1 p1 p2 p3 => ?_)
  rw [zcl hi0 v3, ← zup_a hi0] at p1 p2
  exact K p e s m args below meth c D dA ad0 h0 A C H1 locs1 ad lm (zP_stored (h := h) (h' := sa h a i z) (zG_sa hP.1 hz (fun y => by omega)) (fun _ => rfl) h1 h2 h3 h5 hq (zEn_r (h := sa h a i z) (t := 0) hK) (fun m hm => zEn_sa hm) p1 p2) (zE_st hE (fun _ => rfl)) p3 hL (zos_st (h := h) (h' := sa h a i z) (fun _ => rfl) o1) (zos_st (h := h) (h' := sa h a i z) (fun _ => rfl) (zo_tl (zo_tl (zo_tl o2))))
theorem znar_b {z : Int} (hz : z = 0 ∨ z = 1) : vp_nar .boolean (Int32.ofInt z) = Int32.ofInt z := by
  rcases hz with h | h <;> subst h <;> decide
theorem e_zast {l : Launch} {Y : zM} {Q : zO → zH → Prop} {k n pc : Nat} {ls st : List zV} {h : zH} {a : Nat} {i z : Int} (d : decode (zMc Y) pc = .ok (.bastore, 1)) (hK : zK h a = 101) (hi0 : 0 ≤ i) (hi1 : i < zN h a) (hz : z = 0 ∨ z = 1) (K : AW l Y Q k n (pc + 1) ls st (sa h a i z)) : AW l Y Q k n pc ls (zI z :: zI i :: zR (some a) :: st) h := by
  intro p e s m args below meth c D dA ad0 h0 A C H locs ad lm hP hE hS hL o1 o2
  have hx := C.1
  have hb := C.2.1
  obtain ⟨L, tys, q0, t0, h1, h2, h3, h4, h5, hq, ht0, hw⟩ := zP_row hP (t := 1) hK
  obtain ⟨v1, v2, v3⟩ := zvin hP.1 hi0 hi1
  refine va_zast hx hb h1 h4 h5 hS q0 t0 hw ht0 v1 d (fun H1 locs1 p1 p2 p3 => ?_)
  rw [zcl hi0 v3, znar_b hz, ← zup_a hi0] at p1 p2
  exact K p e s m args below meth c D dA ad0 h0 A C H1 locs1 ad lm (zP_stored (h := h) (h' := sa h a i z) (zG_sa hP.1 (by rcases hz with y | y <;> subst y <;> exact ⟨by decide, by decide⟩) (fun _ => hz)) (fun _ => rfl) h1 h2 h3 h5 hq (zEn_r (h := sa h a i z) (t := 1) hK) (fun m hm => zEn_sa hm) p1 p2) (zE_st hE (fun _ => rfl)) p3 hL (zos_st (h := h) (h' := sa h a i z) (fun _ => rfl) o1) (zos_st (h := h) (h' := sa h a i z) (fun _ => rfl) (zo_tl (zo_tl (zo_tl o2))))
theorem zRw_q {ad : Nat → Nat} {h : zH} {t a : Nat} (ht : 4 ≤ t) : zRw ad h t a = ((zN h a).toNat, .inr (.inr (.inr (.inr (fun j => (zq h a (j : Int)).map ad))))) := by
  match t, ht with
  | t + 4, _ => rfl
theorem zAt_q {t : Nat} (ht : 4 ≤ t) (h8 : t < 8) : ∃ C, zAt t = .object C := by
  match t, ht, h8 with
  | 4, _, _ => exact ⟨_, rfl⟩
  | 5, _, _ => exact ⟨_, rfl⟩
  | 6, _, _ => exact ⟨_, rfl⟩
  | 7, _, _ => exact ⟨_, rfl⟩
theorem e_aald {l : Launch} {Y : zM} {Q : zO → zH → Prop} {k n pc : Nat} {ls st : List zV} {h : zH} {a t : Nat} {i : Int} {r : Option Nat} (d : decode (zMc Y) pc = .ok (.aaload, 1)) (hK : zK h a = 100 + t) (ht4 : 4 ≤ t) (ht8 : t < 8) (hi0 : 0 ≤ i) (hi1 : i < zN h a) (hz : zq h a i = r) (K : AW l Y Q k n (pc + 1) ls (zR r :: st) h) : AW l Y Q k n pc ls (zI i :: zR (some a) :: st) h := by
  intro p e s m args below meth c D dA ad0 h0 A C H locs ad lm hP hE hS hL o1 o2
  have hx := C.1
  have hb := C.2.1
  have K := K p e s m args below meth c D dA ad0 h0 A C H locs ad lm hP hE hS hL o1 (zo_cons (show zok h r from hz ▸ hP.1.2.2.2.1 a i) (zo_tl (zo_tl o2)))
  obtain ⟨L, tys, q0, t0, h1, h2, h3, h4, h5, hq, ht0, hw⟩ := zP_row hP hK
  obtain ⟨v1, v2, v3⟩ := zvin hP.1 hi0 hi1
  obtain ⟨C9, hC9⟩ := zAt_q ht4 ht8
  rw [hC9] at ht0
  rw [zRw_q ht4] at hw
  refine va_aldq hx hb h1 h4 q0 t0 hw ht0 v1 d ?_
  rw [v2, hz]
  exact K
theorem zEn_sq {dA : Nat → ClassId} {ad : Nat → Nat} {h : zH} {n m : Nat} {i : Int} {r : Option Nat} (hm : m ≠ n) : zEn dA ad (sq h n i r) m = zEn dA ad h m :=
  zEn_congr rfl rfl (fun _ => rfl) (fun _ => rfl) (fun _ => rfl) (fun j => by show (z3 (zq h) n i r m j).map ad = _; rw [z3_nn hm]) (fun _ => rfl) (fun _ => rfl) (fun _ => rfl)
theorem zup_q {ad : Nat → Nat} {h : zH} {a : Nat} {i : Int} {r : Option Nat} (h0 : 0 ≤ i) : (fun j : Nat => (zq (sq h a i r) a (j : Int)).map ad) = va_up (fun j : Nat => (zq h a (j : Int)).map ad) i.toNat (r.map ad) := by
  funext j
  show (z3 (zq h) a i r a j).map ad = _
  unfold va_up z3
  by_cases e : (j : Int) = i
  · rw [if_pos ⟨rfl, e⟩, if_pos (by omega)]
  · rw [if_neg (fun y => e y.2), if_neg (by omega)]
/-- may an object of kind kd be put into a row of kind t -/
def zPut (t ci : Nat) : Prop := (t = 4 ∧ ci = 2) ∨ (t = 5 ∧ ci = 6) ∨ (t = 6 ∧ ci = 8)
theorem e_aast {l : Launch} {Y : zM} {Q : zO → zH → Prop} {k n pc : Nat} {ls st : List zV} {h : zH} {a b t ci : Nat} {i : Int} (d : decode (zMc Y) pc = .ok (.aastore, 1)) (hK : zK h a = 100 + t) (hi0 : 0 ≤ i) (hi1 : i < zN h a) (hKb : zK h b = ci + 1) (hput : zPut t ci) (K : AW l Y Q k n (pc + 1) ls st (sq h a i (some b))) : AW l Y Q k n pc ls (zR (some b) :: zI i :: zR (some a) :: st) h := by
  intro p e s m args below meth c D dA ad0 h0 A C H locs ad lm hP hE hS hL o1 o2
  have hx := C.1
  have hb := C.2.1
  obtain ⟨L, tys, q0, t0, h1, h2, h3, h4, h5, hq, ht0, hw⟩ := zP_row hP hK
  have ht4 : 4 ≤ t := by rcases hput with y | y | y <;> omega
  have hci : ci < 10 := by rcases hput with y | y | y <;> omega
  rw [zRw_q ht4] at hw
  have hty : zAt t = .object (zCn ci) := by rcases hput with ⟨rfl, rfl⟩ | ⟨rfl, rfl⟩ | ⟨rfl, rfl⟩ <;> rfl
  rw [hty] at ht0
  obtain ⟨qk, hqk⟩ := List.getElem?_of_mem ((h2 b).mpr (by omega))
  obtain ⟨v1, v2, v3⟩ := zvin hP.1 hi0 hi1
  refine va_astq hx hb h1 h4 h5 hS q0 t0 qk ci (r := (zCn ci, zCt ci, zFn ci)) hw ht0 ((zW_at hqk).trans (by rw [zEn_o hKb hci])) (zCl_at ci hci) v1 d (fun H1 locs1 p1 p2 p3 => ?_)
  rw [zcl hi0 v3, show some (ad b) = (some b).map ad from rfl, ← zup_q hi0] at p1 p2
  have o9 : zok h (some b) := fun y hy => by cases hy; exact Or.inr (by omega)
  exact K p e s m args below meth c D dA ad0 h0 A C H1 locs1 ad lm (zP_stored (h := h) (h' := sq h a i (some b)) (zG_sq hP.1 o9) (fun _ => rfl) h1 h2 h3 h5 hq ((zEn_r (h := sq h a i (some b)) hK).trans (by rw [zRw_q ht4]; rfl)) (fun m hm => zEn_sq hm) p1 p2) (zE_st hE (fun _ => rfl)) p3 hL (zos_st (h := h) (h' := sq h a i (some b)) (fun _ => rfl) o1) (zos_st (h := h) (h' := sq h a i (some b)) (fun _ => rfl) (zo_tl (zo_tl (zo_tl o2))))
theorem e_aastN {l : Launch} {Y : zM} {Q : zO → zH → Prop} {k n pc : Nat} {ls st : List zV} {h : zH} {a t : Nat} {i : Int} (d : decode (zMc Y) pc = .ok (.aastore, 1)) (hK : zK h a = 100 + t) (ht4 : 4 ≤ t) (ht8 : t < 8) (hi0 : 0 ≤ i) (hi1 : i < zN h a) (K : AW l Y Q k n (pc + 1) ls st (sq h a i none)) : AW l Y Q k n pc ls (zR none :: zI i :: zR (some a) :: st) h := by
  intro p e s m args below meth c D dA ad0 h0 A C H locs ad lm hP hE hS hL o1 o2
  have hx := C.1
  have hb := C.2.1
  obtain ⟨L, tys, q0, t0, h1, h2, h3, h4, h5, hq, ht0, hw⟩ := zP_row hP hK
  rw [zRw_q ht4] at hw
  obtain ⟨C9, hC9⟩ := zAt_q ht4 ht8
  rw [hC9] at ht0
  obtain ⟨v1, v2, v3⟩ := zvin hP.1 hi0 hi1
  refine va_astqN hx hb h1 h4 h5 hS q0 t0 hw ht0 v1 d (fun H1 locs1 p1 p2 p3 => ?_)
  rw [zcl hi0 v3, show (none : Option Nat) = (none : Option Nat).map ad from rfl, ← zup_q hi0] at p1 p2
  exact K p e s m args below meth c D dA ad0 h0 A C H1 locs1 ad lm (zP_stored (h := h) (h' := sq h a i none) (zG_sq hP.1 zok_none) (fun _ => rfl) h1 h2 h3 h5 hq ((zEn_r (h := sq h a i none) hK).trans (by rw [zRw_q ht4]; rfl)) (fun m hm => zEn_sq hm) p1 p2) (zE_st hE (fun _ => rfl)) p3 hL (zos_st (h := h) (h' := sq h a i none) (fun _ => rfl) o1) (zos_st (h := h) (h' := sq h a i none) (fun _ => rfl) (zo_tl (zo_tl (zo_tl o2))))
theorem zRw_len {ad : Nat → Nat} {h : zH} {t a : Nat} : (zRw ad h t a).1 = (zN h a).toNat := by
  unfold zRw
  split <;> rfl
theorem e_alen {l : Launch} {Y : zM} {Q : zO → zH → Prop} {k n pc : Nat} {ls st : List zV} {h : zH} {a t : Nat} {z : Int} (d : decode (zMc Y) pc = .ok (.arraylength, 1)) (hK : zK h a = 100 + t) (hz : zN h a = z) (K : AW l Y Q k n (pc + 1) ls (zI z :: st) h) : AW l Y Q k n pc ls (zR (some a) :: st) h := by
  intro p e s m args below meth c D dA ad0 h0 A C H locs ad lm hP hE hS hL o1 o2
  have hx := C.1
  have hb := C.2.1
  have K := K p e s m args below meth c D dA ad0 h0 A C H locs ad lm hP hE hS hL o1 (zo_cons trivial (zo_tl o2))
  obtain ⟨L, tys, q0, t0, h1, h2, h3, h4, h5, hq, ht0, hw⟩ := zP_row hP hK
  refine va_alen hx hb h1 h4 q0 t0 hw ht0 (v := Int32.ofInt z) ?_ d K
  have := (hP.1.2.2.2.2.1 a).1
  rw [zRw_len, ← hz, ← Int32.ofInt_eq_ofNat]
  congr 1
  omega
end
section
section VXIA
variable {p : Program} {l : Launch} {e : Env} {R : Room} {s : State} {m : MethodId} {args : Array Value} {below : List Frame} {meth : Method} {c : Code} {T : State} {locs : List Loc} {cells slots : Nat}
theorem vx_callI (X : Stand p l e R s m args below meth c T locs cells slots) (hexec : p.tables.exec = Jvm.exec) {own : String} {index : Nat} {y : MethodName} {bytes : ByteArray} {maxL : Nat}
    (hown : s.vm.findClass own = some m.cls) (hy1 : y.name = "<init>") (hlink : (Cond.methodLink own index y).before args s = true) (hinst : (Cond.instanceMethod y).before args s = true)
    (hcode : (Cond.code y bytes maxL none).before args s = true) (hy : y.cls ≠ "java/lang/invoke/MethodHandle" ∧ y.cls ≠ "java/lang/invoke/VarHandle")
    {W9 : Nat} {Pre : Pt → Array Value → Prop} {Post : Pt → Array Value → Option Value → Pt → Prop} {PostX : Pt → Array Value → Addr → Pt → Prop} (hK : vx_Back l R p e below s args y 3 W9 Pre Post PostX)
    {g : JFrame} (hg : g.method = m) (hsize : g.locals.size = c.maxLocals) {a : Addr} {argsL rest : List Value} (hlen : ∀ sig, parseMethodDescriptor y.desc = some sig → argsL.length = sig.parameters.length)
    (hstack : g.stack = argsL.reverse ++ .ref a :: rest) (hW : 2 * g.monitorRoom + (rest.map fun v => v.category).sum ≤ W9) (hdg : decode c.code g.pc = .ok (.invokespecial index, 3))
    (hpre : ∀ vm₁, s.WarmedH vm₁ → Pre ⟨T.setVm vm₁, locs, cells, slots⟩ (Value.ref a :: argsL).toArray) :
    (∃ (v : Option Value) (vm₁ : Vm) (B : Pt), s.WarmedH vm₁ ∧ Stand p l e R s m args below meth c B.U B.locs B.cells B.slots ∧ Post ⟨T.setVm vm₁, locs, cells, slots⟩ (Value.ref a :: argsL).toArray v B ∧
      ∀ target, Steps p.tables e below (B.U.setTop { g with pc := g.pc + 3, stack := v.toList ++ rest }) target → Steps p.tables e below (T.setTop g) target) ∨
    (∃ (q : Addr) (vm₁ : Vm) (B : Pt), s.WarmedH vm₁ ∧ Stand p l e R s m args below meth c B.U B.locs B.cells B.slots ∧ PostX ⟨T.setVm vm₁, locs, cells, slots⟩ (Value.ref a :: argsL).toArray q B ∧
      Steps p.tables e below (T.setTop g) ((B.U.setTop { g with stack := rest }).pushFrame (.throwing q))) := by
  subst hg
  have hpl : e.platform.magicAccessors = ({} : Platform).magicAccessors := by rw [X.admits.platform]
  obtain ⟨mk, methM, cM, kP, vm₁, hnamed, hmethM, hcodeM, -, hlocalsM, -, hkP, -, hW₁, hstep₁⟩ := Steps.initColdArgs (e := e) X.here hexec X.warmed hpl hown hy1 hy hlink hinst hcode (f := g) rfl hlen hstack hdg
  have X₁ := X.noted hW₁
  rcases hK g.method meth c ⟨T.setVm vm₁, locs, cells, slots⟩ { g with stack := rest } (.invokespecial index) mk (Value.ref a :: argsL).toArray X₁ rfl hsize hdg hW (X₁.named hnamed) (hpre vm₁ X₁.warmed) with ⟨v, B, X', hpost, hsteps⟩ | ⟨q, B, X', hpost, hsteps⟩
  · exact Or.inl ⟨v, vm₁, B, X₁.warmed, X', hpost, fun target h => hstep₁ _ fun acts => by rw [doInvoke_state]; exact hsteps.trans h⟩
  · exact Or.inr ⟨q, vm₁, B, X₁.warmed, X', hpost, hstep₁ _ fun acts => by rw [doInvoke_state]; exact hsteps⟩
end VXIA
section VXIB
variable {p : Program} {l : Launch} {e : Env} {R : Room} {s : State} {m : MethodId} {args : Array Value} {below : List Frame} {meth : Method} {c : Code} {H : Heap} {locs : List Loc} {cells slots : Nat}
variable {y : MethodName} {bytes cc : ByteArray} {maxL nL mc ms n index : Nat} {ret : Option FieldType} {ws : List Cond} {rm : Room} {Pc : Array Value → State → Prop} {Qc : Array Value → State → Outcome → State → Prop} {XC : String → State → State → Prop} {free : Addr → Prop} {Ts : List Cond} {own C : String} {b : Addr} {As rest : List Value} {g : JFrame}
theorem vx_runI (S : CallFix p m c cc nL s args Ts own) (hM : vx_Met l y ws rm Pc Qc XC mc ms free) (cw : CallB R s args own index y bytes maxL none ws rm mc ms n ∧ y.name = "<init>" ∧ (Cond.instanceMethod y).before args s = true) (hp : PreS s H Pc (.ref b :: As))
    (hg : g.method = m) (hn : As.length = n) (hsize : g.locals.size = nL) (hstack : g.stack = As.reverse ++ .ref b :: rest) (hW : 2 * g.monitorRoom + (rest.map fun v => v.category).sum ≤ 8) (hdg : decode cc g.pc = .ok (.invokespecial index, 3)) (hf : cells + mc ≤ R.cells ∧ slots + ms ≤ R.slots) :
    vx_Run p l e R s m args below meth c H locs cells slots mc ms g rest (Qc (Value.ref b :: As).toArray) XC free := by
  have hK : vx_Back l R p e below s args y 3 8 (PreOf R mc ms Pc) (PostOf Qc mc ms free) (vx_Post XC mc ms free) := vx_callBack cw.1 hM hp.1
  obtain ⟨⟨-, -, -, -, -, -, hcode, -, hy, hlen, hl⟩, hy1, hin⟩ := cw
  obtain ⟨hx, hb, hml, ho, -⟩ := S
  have hPc := hp.2
  intro T hT X
  rcases vx_callI X hx (bytes := bytes) (maxL := maxL) ho hy1 hl hin hcode hy hK hg (hsize.trans hml.symm) (a := b) (argsL := As) (rest := rest) (fun sig h => hn.trans (hlen sig h)) hstack hW (by rw [hb]; exact hdg)
    (fun vm₁ hW₁ => ⟨hf.1, hf.2, hPc (T.setVm vm₁) hT hW₁⟩) with ⟨v, vm₁, ⟨U', l2, c2, s2⟩, hW₁, X', ⟨g', mk, t, L, e1, e2, hq, h1, hL, h2, h3⟩, st⟩ | ⟨q, vm₁, ⟨U', l2, c2, s2⟩, hW₁, X', ⟨g', mk, t, L, E, ce, e1, e2, hq, hce, hcv, hcl, h1, hL, h2, h3⟩, st⟩
  · dsimp only [Pt.U, Pt.locs, Pt.cells, Pt.slots] at X' e1 e2 h1 h2 h3 st
    subst h1; subst h2; subst h3
    exact Or.inl ⟨v, (T.setVm vm₁).calling g' mk (Value.ref b :: As).toArray, t, U', L, hT, X', hL, e1, e2, hq, st⟩
  · dsimp only [Pt.U, Pt.locs, Pt.cells, Pt.slots] at X' e1 e2 h1 h2 h3 st hcl
    subst h1; subst h2; subst h3
    exact Or.inr ⟨q, (T.setVm vm₁).calling g' mk (Value.ref b :: As).toArray, t, U', L, E, ce, hT, X', hL, e1, e2, hq, hce, hcv, vx_cls hW₁ hcl, st⟩
end VXIB
end
section
/-! the world seen from another state -/
theorem zP_moved {s t : State} {D : va_G} {dA : Nat → ClassId} {A : Nat → Prop} {ad : Nat → Nat} {h : zH} {H : Heap} (hP : zP s D dA A ad h H) (hvm : s.vm.Alike t.vm) : zP t D dA A ad h H := by
  obtain ⟨g, L, tys, h1, h2⟩ := hP
  exact ⟨g, L, tys, va_K.moved hvm h1, h2⟩
theorem zP_weaken {s : State} {D : va_G} {dA : Nat → ClassId} {A B : Nat → Prop} {ad : Nat → Nat} {h : zH} {H : Heap} (hP : zP s D dA A ad h H) (hAB : ∀ q, A q → B q) : zP s D dA B ad h H := by
  obtain ⟨g, L, tys, h1, h2, h3, h4, h5⟩ := hP
  exact ⟨g, L, tys, h1, h2, h3, h4, h5.weaken (fun _ _ _ y => hAB _ y)⟩
theorem zP_A {s : State} {D : va_G} {dA : Nat → ClassId} {A : Nat → Prop} {ad : Nat → Nat} {h : zH} {H : Heap} (hP : zP s D dA A ad h H) {n : Nat} (hn : zK h n ≠ 0) : A (ad n) := by
  obtain ⟨L, tys, q0, h1, h2, h3, h4, h5, hq⟩ := zP_at hP hn
  exact h5.2 q0 _ (zW_at hq)
theorem zP_self {s : State} {D : va_G} {dA : Nat → ClassId} {A : Nat → Prop} {ad : Nat → Nat} {h : zH} {H : Heap} {sz : Nat} (hP : zP s D dA A ad h H) : zP s D dA (zA ad h sz) ad h H := by
  obtain ⟨g, L, tys, h1, h2, h3, h4, h5⟩ := hP
  refine ⟨g, L, tys, h1, h2, h3, h4, h5.1, fun j q hq => ?_⟩
  cases hl : L[j]? with
  | none => rw [zW, List.getElem?_map, hl] at hq; cases hq
  | some m =>
    rw [zW_at hl] at hq
    cases hq
    exact Or.inl ⟨m, (h2 m).mp (List.mem_of_getElem? hl), rfl⟩
theorem zA_sub {s : State} {D : va_G} {dA : Nat → ClassId} {A : Nat → Prop} {ad : Nat → Nat} {h : zH} {H : Heap} {sz : Nat} (hP : zP s D dA A ad h H) (hA : ∀ q : Nat, sz ≤ q → A q) : ∀ q, zA ad h sz q → A q := by
  intro q hq
  rcases hq with ⟨n, hn, rfl⟩ | hq
  · exact zP_A hP hn
  · exact hA q hq
theorem zc_E {h h1 : zH} {ad ad1 : Nat → Nat} {v : zV} (hE : zE h ad h1 ad1) (ho : zokv h v) : zc ad1 v = zc ad v := by
  rcases v with z | r | z | u | u | u
  · rfl
  · cases r with
    | none => rfl
    | some a => exact congrArg Value.ref (hE.1 a ((ho a rfl).imp_left (fun y => by omega)))
  · rfl
  · rfl
  · rfl
  · cases u
    · rfl
    · exact congrArg Value.ref (hE.1 1 (Or.inl (Nat.le_refl 1)))
theorem zmap_E {h h1 : zH} {ad ad1 : Nat → Nat} {vs : List zV} (hE : zE h ad h1 ad1) (ho : ∀ v ∈ vs, zokv h v) : vs.map (zc ad1) = vs.map (zc ad) := List.map_congr_left (fun v hv => zc_E hE (ho v hv))
theorem zokv_E {h h1 : zH} {ad ad1 : Nat → Nat} {v : zV} (hE : zE h ad h1 ad1) (ho : zokv h v) : zokv h1 v := by
  rcases v with z | r | z | u | u | u
  · trivial
  · intro n hn
    rcases ho n hn with y | y
    · exact Or.inl y
    · exact Or.inr (by rw [hE.2 n y]; exact y)
  · trivial
  · trivial
  · trivial
  · trivial
theorem zLO_E {h h1 : zH} {ad ad1 : Nat → Nat} {ls : List zV} {lm : Array Slot} {nL : Nat} (hE : zE h ad h1 ad1) (ho : ∀ v ∈ ls, zokv h v) (hL : zLO ad ls lm nL) : zLO ad1 ls lm nL :=
  ⟨hL.1, hL.2.1, fun i v hi hv => by rw [zc_E hE (ho v (List.mem_of_getElem? hi))]; exact hL.2.2 i v hi hv⟩
theorem zS_for {A B : Nat → Prop} {e0 : Nat} {s U : State} {H : Heap} {locs : List Loc} (h : zS A e0 s s.heap) (hS : va_S A s.heap H locs) (hW : s.WarmedH U.vm) (hBA : ∀ q, B q → A q) : zS B e0 U H :=
  ⟨(vx_Zq.moved hW.alike (h.1.kept hS.2.1)).narrow hBA, (vx_Zq.moved hW.alike (h.2.1.kept hS.2.1)).narrow hBA, (va_Z.moved hW.alike (h.2.2.1.kept hS.2.1)).narrow hBA, (va_T.moved hW.alike (h.2.2.2.1.kept hS.2.1)).narrow hBA, by
    obtain ⟨x, y, hR, h1, h2, h3, h4, h5, h6⟩ := h.2.2.2.2
    exact ⟨x, y, vk_R.warm hW hR, (va_O.moved hW.alike (h1.kept hS.2.1)).narrow hBA, (va_OF.moved hW.alike (h2.kept hS.2.1)).narrow hBA, (va_OF.moved hW.alike (h3.kept hS.2.1)).narrow hBA, (va_T.moved hW.alike (h4.kept hS.2.1)).narrow hBA, (va_Z.moved hW.alike (h5.kept hS.2.1)).narrow hBA, (va_Zq.moved hW.alike (h6.kept hS.2.1)).narrow hBA⟩⟩
/-- a throw at pc, on its way -/
def AX (l : Launch) (Y : zM) (Q : zO → zH → Prop) (k n pc : Nat) (ls rest : List zV) (E : String) (h : zH) : Prop :=
  ∀ (p : Program) (e : Env) (s : State) (m : MethodId) (args : Array Value) (below : List Frame) (meth : Method) (c : Code) (D : va_G) (dA : Nat → ClassId) (ad0 : Nat → Nat) (h0 : zH) (A : Nat → Prop),
    zCX l Y p s m args meth c dA A (ad0 0) (ad0 1) → ∀ (H : Heap) (locs : List Loc) (ad : Nat → Nat) (lm : Array Slot) (q : Addr) (ce : Cell), zP s D dA A ad h H → zE h0 ad0 h ad → va_S A s.heap H locs → zLO ad ls lm (zMn Y) → (∀ v ∈ ls, zokv h v) → H[q]? = some ce → ce.vm = .none → s.vm.findClass E = some ce.cls →
      vx_W p l e (zMr Y) s m args below meth c H locs k n (vx_MQ below (zQc D dA ad0 h0 Q A) (zXc D dA ad0 h0 Q A) args s (zMr Y).cells (zMr Y).slots A) (F0 m pc lm (rest.map (zc ad))) q
theorem AX_out {l : Launch} {Y : zM} {Q : zO → zH → Prop} {k n pc : Nat} {ls rest : List zV} {E : String} {h : zH} (hh : zMh Y = []) (hk : k ≤ (zMr Y).cells) (hn : n ≤ (zMr Y).slots) (hq : Q (.inr E) h) : AX l Y Q k n pc ls rest E h := by
  intro p e s m args below meth c D dA ad0 h0 A C H locs ad lm q ce hP hE hS hL o1 hce hcv hcl
  have ht : c.exceptionTable.toList = [] := by
    rw [C.2.2.2.2.2.2.2.2.1, hh]
    rfl
  refine vx_out (fun x hx => by rw [ht] at hx; cases hx) C.2.2.2.2.2.2.1 hce hcv hcl (fun t h1 h2 => ⟨⟨h, ad, hq, ?_, hE⟩, hS.F h1⟩) hS.2.2 hk hn
  rw [h1]
  exact zP_moved hP h2
section ZG
variable {p : Program} {l : Launch} {e : Env} {R : Room} {s : State} {m : MethodId} {args : Array Value} {below : List Frame} {meth : Method} {c : Code} {H : Heap} {locs : List Loc} {k n mc ms pc : Nat} {lm : Array Slot} {st0 rest : List Value} {D : va_G} {dA : Nat → ClassId} {ad : Nat → Nat} {h : zH} {Qc : zO → zH → Prop} {A A1 : Nat → Prop} {a : Array Value} {Qm : State → Prop}
theorem z_goes (hr : vx_Run p l e R s m args below meth c H locs k n mc ms (F0 m pc lm st0) rest (zQc D dA ad h Qc A1 a) (zXc D dA ad h Qc A1) A1) (hS : va_S A s.heap H locs) (hA : ∀ q, A1 q → A q)
    (kx : ∀ (E : String) (h1 : zH) (ad1 : Nat → Nat) (H1 : Heap) (locs1 : List Loc) (q : Addr) (ce : Cell), Qc (.inr E) h1 → zP s D dA A ad1 h1 H1 → zE h ad h1 ad1 → va_S A s.heap H1 locs1 → H1[q]? = some ce → ce.vm = .none → s.vm.findClass E = some ce.cls → vx_W p l e R s m args below meth c H1 locs1 (k + mc) (n + ms) Qm (F0 m pc lm rest) q)
    (kk : ∀ (v : Option zV) (h1 : zH) (ad1 : Nat → Nat) (H1 : Heap) (locs1 : List Loc), Qc (.inl v) h1 → zP s D dA A ad1 h1 H1 → zE h ad h1 ad1 → va_S A s.heap H1 locs1 → (∀ w, v = some w → zokv h1 w) → W p l e R s m args below meth c H1 locs1 (k + mc) (n + ms) Qm (F0 m (pc + 3) lm ((v.map (zc ad1)).toList ++ rest))) :
    W p l e R s m args below meth c H locs k n Qm (F0 m pc lm st0) := by
  intro T hT X
  rcases hr T hT X with ⟨v, st₀, t, T', L, h0, X', hL, e1, e2, ⟨⟨v', h1, ad1, hv, hq, hP1, hE1, ho⟩, hF⟩, st⟩ | ⟨q, st₀, t, T', L, E, ce, h0, X', hL, e1, e2, ⟨⟨h1, ad1, hq, hP1, hE1⟩, hF⟩, hce, hcv, hcl, st⟩
  · cases hv
    obtain ⟨k1, k2, k3⟩ := vx_keep h0 e1 hS (fun q _ y => hA q y) hA hL hF
    have hP2 : zP s D dA A ad1 h1 T'.heap := by
      rw [e1]
      refine zP_weaken (zP_moved hP1 ?_) hA
      rw [← e2]
      exact X'.warmed.alike.symm
    obtain ⟨t2, a1, b1⟩ := kk v' h1 ad1 T'.heap (locs ++ L) hq hP2 hE1 k3 ho T' rfl X'
    exact ⟨t2, st t2 a1, b1⟩
  · obtain ⟨k1, k2, k3⟩ := vx_keep h0 e1 hS (fun q _ y => hA q y) hA hL hF
    have hP2 : zP s D dA A ad1 h1 T'.heap := by
      rw [e1]
      refine zP_weaken (zP_moved hP1 ?_) hA
      rw [← e2]
      exact X'.warmed.alike.symm
    obtain ⟨t2, a1, b1⟩ := kx E h1 ad1 T'.heap (locs ++ L) q ce hq hP2 hE1 k3 (by rw [e1]; exact hce) hcv hcl T' rfl X'
    exact ⟨t2, st.trans a1, b1⟩
end ZG
/-- a callee's start, at any state of the caller's tables -/
theorem zB_for {l : Launch} {Y : zM} {p : Program} {s U : State} {m : MethodId} {args : Array Value} {meth : Method} {c : Code} {D : va_G} {dA : Nat → ClassId} {ad0 ad : Nat → Nat} {h0 h : zH} {A : Nat → Prop} {H : Heap} {locs : List Loc} {As : List zV} (C : zCX l Y p s m args meth c dA A (ad0 0) (ad0 1)) (hP : zP s D dA A ad h H) (hE : zE h0 ad0 h ad) (hS : va_S A s.heap H locs) (ho : ∀ v ∈ As, zokv h v) (hU : U.heap = H) (hW : s.WarmedH U.vm) : zB D dA ad H.size As h U := by
  have hA := zA_sub (sz := H.size) hP (fun q hq => C.2.2.2.2.2.2.2.2.2.2.2.2.1 q (Nat.le_trans hS.1 hq))
  refine ⟨by rw [hU], ?_, fun t c9 hc => C.2.2.2.2.2.2.2.2.2.1 t c9 (by rw [← hW.alike.findClass]; exact hc), ?_, ⟨fun q hq => ?_, ⟨fun E hE F hF ne => va_Nc.moved hW.alike (C.2.2.2.2.2.2.2.2.2.2.2.1.2.1.1 E hE F hF ne), C.2.2.2.2.2.2.2.2.2.2.2.1.2.1.2.imp (fun mi hmi => va_Mi.moved hW.alike hmi)⟩, fun q hq => va_Nw.warmC hW (C.2.2.2.2.2.2.2.2.2.2.2.1.2.2.1 q hq), fun q hq => va_Nw.warmD hW (C.2.2.2.2.2.2.2.2.2.2.2.1.2.2.2.1 q hq), fun q hq => va_Nw.warmM hW (C.2.2.2.2.2.2.2.2.2.2.2.1.2.2.2.2.1 q hq), fun E hE => va_AO.moved hW.alike (C.2.2.2.2.2.2.2.2.2.2.2.1.2.2.2.2.2 E hE)⟩, ho⟩
  · rw [hU]
    exact zP_self (zP_moved hP hW.alike)
  · rw [hU, hE.1 0 (Or.inl (Nat.zero_le 1))]
    exact zS_for C.2.2.2.2.2.2.2.2.2.2.1 hS hW hA
  · obtain ⟨a, ha⟩ := C.2.2.2.2.2.2.2.2.2.2.2.1.1 q hq
    exact ⟨a, vk_R.warm hW ha⟩
theorem zB_blind {D : va_G} {dA : Nat → ClassId} {ad : Nat → Nat} {sz : Nat} {As : List zV} {h : zH} {av : List Value} : FrameBlind (va_Pc av (zB D dA ad sz As h)) := by
  intro a U g mk hp
  obtain ⟨h1, h2, h3, h4, h5, h6, h7⟩ := hp
  refine ⟨h1, h2, zP_moved (t := U.calling g mk a) h3 (Vm.Alike.refl U.vm), h4, ?_, ⟨fun q hq => ?_, ⟨fun E hE F hF ne => va_Nc.moved (U := U.calling g mk a) (Vm.Alike.refl U.vm) (h6.2.1.1 E hE F hF ne), h6.2.1.2.imp (fun mi hmi => va_Mi.moved (U := U.calling g mk a) (Vm.Alike.refl U.vm) hmi)⟩, fun q hq => va_Nw.same (U := U.calling g mk a) rfl rfl (h6.2.2.1 q hq), fun q hq => va_Nw.same (U := U.calling g mk a) rfl rfl (h6.2.2.2.1 q hq), fun q hq => va_Nw.same (U := U.calling g mk a) rfl rfl (h6.2.2.2.2.1 q hq), fun E hE => va_AO.moved (U := U.calling g mk a) (Vm.Alike.refl U.vm) (h6.2.2.2.2.2 E hE)⟩, h7⟩
  · exact zS_for (s := U) (U := U.calling g mk a) h5 (va_S.rf (A := zA ad h sz)) (State.WarmedH.refl U) (fun _ y => y)
  · obtain ⟨x, hx⟩ := h6.1 q hq
    exact ⟨x, vk_R.same (u := U) rfl hx⟩
theorem zT_good {w : Cond} (h : w ∈ zT) : (w.onTables && w.keeps) = true ∨ ∃ ty, w = .arrayClass ty := good_of_word (List.mem_filter.mp h).2
theorem zT_in {ws : List Cond} (h : ∀ w ∈ ws, w ∈ zT) : GoodIn zT ws := fun w hw => ⟨h w hw, zT_good (h w hw)⟩
/-- a method that the world knows -/
def zMok (Y : zM) (n : Nat) : Prop := Cond.code (zMy Y) (zMc Y) (zMn Y) (zMt Y) ∈ zT ∧ Cond.initialized (zMy Y).cls ∈ zT ∧ ((zMy Y).cls ≠ "java/lang/invoke/MethodHandle" ∧ (zMy Y).cls ≠ "java/lang/invoke/VarHandle" ∧ (parseMethodDescriptor (zMy Y).desc).map (fun d => d.parameters.length) = some n)
theorem zWs_in {Y : zM} {n : Nat} (h : zMok Y n) : ∀ w ∈ zWs Y, w ∈ zT := fun w hw => by
  rcases List.mem_cons.mp hw with rfl | hw
  · exact h.1
  · exact hw
def zVok (Y : zM) : Prop := Cond.instanceMethod (zMy Y) ∈ zT ∧ Cond.selects (zMy Y).cls (zMy Y) (zMy Y) ∈ zT
theorem zcat_rest {ad : Nat → Nat} {rest : List zV} (hr : rest.length ≤ 4) : ((rest.map (zc ad)).map fun v => v.category).sum ≤ 8 := by
  have h2 : ∀ v : Value, v.category ≤ 2 := by intro v; cases v <;> (first | exact Nat.le_refl 2 | exact Nat.le_succ 1)
  have h1 : ∀ vs : List Value, (vs.map fun v => v.category).sum ≤ 2 * vs.length := by
    intro vs
    induction vs with
    | nil => exact Nat.le_refl _
    | cons v vs ih =>
      rw [List.map_cons, List.sum_cons, List.length_cons]
      have := h2 v
      omega
  have := h1 (rest.map (zc ad))
  rw [List.length_map] at this
  omega
/-- the room that a call takes -/
def zFits (Y Yc : zM) (k n : Nat) : Prop := (zMr Yc).frames + 1 ≤ (zMr Y).frames ∧ 8 + (zMn Yc + 11) + (zMr Yc).locals ≤ (zMr Y).locals ∧ k + (zMr Yc).cells ≤ (zMr Y).cells ∧ n + (zMr Yc).slots ≤ (zMr Y).slots
theorem e_callV {l : Launch} {Y Yc : zM} {Q Qc : zO → zH → Prop} {k n pc : Nat} {ls st As rest : List zV} {h : zH} {idx b cb : Nat} (d : decode (zMc Y) pc = .ok (.invokevirtual idx, 3)) (M : zMok Yc As.length) (V : zVok Yc) (hl : Cond.methodLink (zMy Y).cls idx (zMy Yc) ∈ zT) (hcb : cb < 10) (hcn : zCn cb = (zMy Yc).cls) (hK : zK h b = cb + 1) (hst : st = As.reverse ++ zR (some b) :: rest) (hr : rest.length ≤ 4) (hf : zFits Y Yc k n) (hc : zC l Yc (zR (some b) :: As) h Qc)
    (kx : ∀ E h1, Qc (.inr E) h1 → AX l Y Q (k + (zMr Yc).cells) (n + (zMr Yc).slots) pc ls rest E h1) (kk : ∀ v h1, Qc (.inl v) h1 → AW l Y Q (k + (zMr Yc).cells) (n + (zMr Yc).slots) (pc + 3) ls (v.toList ++ rest) h1) : AW l Y Q k n pc ls st h := by
  intro p e s m args below meth c D dA ad0 h0 A C H locs ad lm hP hE hS hL o1 o2
  subst hst
  have hT := C.2.2.2.2.2.1
  have oA : ∀ v ∈ As, zokv h v := fun v hv => o2 v (List.mem_append_left _ (List.mem_reverse.mpr hv))
  have oB : zokv h (zR (some b)) := o2 _ (List.mem_append_right _ List.mem_cons_self)
  have oR : ∀ v ∈ rest, zokv h v := fun v hv => o2 v (List.mem_append_right _ (List.mem_cons_of_mem _ hv))
  obtain ⟨L, tys, q0, h1, h2, h3, h4, h5, hq⟩ := zP_at hP (n := b) (by rw [hK]; omega)
  have hrecv := va_recv h1 h4 (zCl_at cb hcb) ((zW_at (dA := dA) (ad := ad) (h := h) hq).trans (by rw [zEn_o hK hcb]))
  rw [hcn] at hrecv
  have hA := zA_sub (sz := H.size) hP (fun q hq => C.2.2.2.2.2.2.2.2.2.2.2.2.1 q (Nat.le_trans hS.1 hq))
  have hG : GoodIn zT (wsV (zMy Y).cls idx (zMy Yc).cls (zMy Yc) (zWs Yc)) := by
    refine zT_in (fun w hw => ?_)
    rcases List.mem_append.mp hw with hw | hw
    · simp only [List.mem_cons, List.not_mem_nil, or_false] at hw
      rcases hw with rfl | rfl | rfl | rfl
      · exact hl
      · exact V.1
      · exact V.2
      · exact M.2.1
    · exact zWs_in M w hw
  refine z_goes (vx_runV (As := As.map (zc ad)) (rest := rest.map (zc ad)) (nL := zMn Y) ⟨C.1, C.2.1, C.2.2.2.1, C.2.2.2.2.1, hT⟩ (hc D dA ad H.size) (cwV As.length hT hG rfl rfl rfl ⟨rfl, M.2.2⟩ ⟨hf.1, hf.2.1⟩) ⟨zB_blind, hrecv, fun U hU hW => ⟨rfl, zB_for C hP hE hS (List.forall_mem_cons.mpr ⟨oB, oA⟩) hU hW⟩⟩ rfl (by rw [List.length_map]) hL.1 (by
    show List.map (zc ad) (As.reverse ++ zR (some b) :: rest) = _
    rw [List.map_append, List.map_cons, List.map_reverse]
    rfl) (lv_room (zcat_rest hr)) d ⟨hf.2.2.1, hf.2.2.2⟩) hS hA ?_ ?_
  · intro E h1 ad1 H1 locs1 q ce g1 g2 g3 g4 g5 g6 g7
    have K := kx E h1 g1 p e s m args below meth c D dA ad0 h0 A C H1 locs1 ad1 lm q ce g2 (zE_tr hE g3) g4 (zLO_E g3 o1 hL) (fun v hv => zokv_E g3 (o1 v hv)) g5 g6 g7
    rw [zmap_E g3 oR] at K
    exact K
  · intro v h1 ad1 H1 locs1 g1 g2 g3 g4 g5
    have K := kk v h1 g1 p e s m args below meth c D dA ad0 h0 A C H1 locs1 ad1 lm g2 (zE_tr hE g3) g4 (zLO_E g3 o1 hL) (fun v hv => zokv_E g3 (o1 v hv)) (fun w hw => by
      rcases List.mem_append.mp hw with hw | hw
      · cases v with
        | none => cases hw
        | some x =>
          rw [show (some x).toList = [x] from rfl, List.mem_singleton] at hw
          rw [hw]
          exact g5 x rfl
      · exact zokv_E g3 (oR w hw))
    rw [List.map_append, zmap_E g3 oR] at K
    cases v with
    | none => exact K
    | some x => exact K
end
section
theorem e_callS {l : Launch} {Y Yc : zM} {Q Qc : zO → zH → Prop} {k n pc : Nat} {ls st As rest : List zV} {h : zH} {idx : Nat} (d : decode (zMc Y) pc = .ok (.invokestatic idx, 3)) (M : zMok Yc As.length) (V : Cond.static (zMy Yc) ∈ zT) (hl : Cond.methodLink (zMy Y).cls idx (zMy Yc) ∈ zT) (hst : st = As.reverse ++ rest) (hr : rest.length ≤ 4) (hf : zFits Y Yc k n) (hc : zC l Yc As h Qc)
    (kx : ∀ E h1, Qc (.inr E) h1 → AX l Y Q (k + (zMr Yc).cells) (n + (zMr Yc).slots) pc ls rest E h1) (kk : ∀ v h1, Qc (.inl v) h1 → AW l Y Q (k + (zMr Yc).cells) (n + (zMr Yc).slots) (pc + 3) ls (v.toList ++ rest) h1) : AW l Y Q k n pc ls st h := by
  intro p e s m args below meth c D dA ad0 h0 A C H locs ad lm hP hE hS hL o1 o2
  subst hst
  have hT := C.2.2.2.2.2.1
  have oA : ∀ v ∈ As, zokv h v := fun v hv => o2 v (List.mem_append_left _ (List.mem_reverse.mpr hv))
  have oR : ∀ v ∈ rest, zokv h v := fun v hv => o2 v (List.mem_append_right _ hv)
  have hA := zA_sub (sz := H.size) hP (fun q hq => C.2.2.2.2.2.2.2.2.2.2.2.2.1 q (Nat.le_trans hS.1 hq))
  have hG : GoodIn zT (va_wsS (zMy Y).cls idx (zMy Yc) (zWs Yc)) := by
    refine zT_in (fun w hw => ?_)
    rcases List.mem_append.mp hw with hw | hw
    · simp only [List.mem_cons, List.not_mem_nil, or_false] at hw
      rcases hw with rfl | rfl | rfl
      · exact hl
      · exact V
      · exact M.2.1
    · exact zWs_in M w hw
  refine z_goes (vx_runS (As := As.map (zc ad)) (rest := rest.map (zc ad)) (nL := zMn Y) ⟨C.1, C.2.1, C.2.2.2.1, C.2.2.2.2.1, hT⟩ (hc D dA ad H.size) (va_cwS As.length hT hG rfl rfl rfl M.2.2 ⟨hf.1, hf.2.1⟩) ⟨zB_blind, fun U hU hW => ⟨rfl, zB_for C hP hE hS oA hU hW⟩⟩ rfl (by rw [List.length_map]) hL.1 (by
    show List.map (zc ad) (As.reverse ++ rest) = _
    rw [List.map_append, List.map_reverse]) (lv_room (zcat_rest hr)) d ⟨hf.2.2.1, hf.2.2.2⟩) hS hA ?_ ?_
  · intro E h1 ad1 H1 locs1 q ce g1 g2 g3 g4 g5 g6 g7
    have K := kx E h1 g1 p e s m args below meth c D dA ad0 h0 A C H1 locs1 ad1 lm q ce g2 (zE_tr hE g3) g4 (zLO_E g3 o1 hL) (fun v hv => zokv_E g3 (o1 v hv)) g5 g6 g7
    rw [zmap_E g3 oR] at K
    exact K
  · intro v h1 ad1 H1 locs1 g1 g2 g3 g4 g5
    have K := kk v h1 g1 p e s m args below meth c D dA ad0 h0 A C H1 locs1 ad1 lm g2 (zE_tr hE g3) g4 (zLO_E g3 o1 hL) (fun v hv => zokv_E g3 (o1 v hv)) (fun w hw => by
      rcases List.mem_append.mp hw with hw | hw
      · cases v with
        | none => cases hw
        | some x =>
          rw [show (some x).toList = [x] from rfl, List.mem_singleton] at hw
          rw [hw]
          exact g5 x rfl
      · exact zokv_E g3 (oR w hw))
    rw [List.map_append, zmap_E g3 oR] at K
    cases v with
    | none => exact K
    | some x => exact K
/-- a call of a constructor -/
theorem e_callI {l : Launch} {Y Yc : zM} {Q Qc : zO → zH → Prop} {k n pc : Nat} {ls st As rest : List zV} {h : zH} {idx b : Nat} (d : decode (zMc Y) pc = .ok (.invokespecial idx, 3)) (M : zMok Yc As.length) (V : Cond.instanceMethod (zMy Yc) ∈ zT) (hret : zMt Yc = none) (hi : (zMy Yc).name = "<init>") (hl : Cond.methodLink (zMy Y).cls idx (zMy Yc) ∈ zT) (hst : st = As.reverse ++ zR (some b) :: rest) (hr : rest.length ≤ 4) (hf : zFits Y Yc k n) (hc : zC l Yc (zR (some b) :: As) h Qc)
    (kx : ∀ E h1, Qc (.inr E) h1 → AX l Y Q (k + (zMr Yc).cells) (n + (zMr Yc).slots) pc ls rest E h1) (kk : ∀ v h1, Qc (.inl v) h1 → AW l Y Q (k + (zMr Yc).cells) (n + (zMr Yc).slots) (pc + 3) ls (v.toList ++ rest) h1) : AW l Y Q k n pc ls st h := by
  intro p e s m args below meth c D dA ad0 h0 A C H locs ad lm hP hE hS hL o1 o2
  subst hst
  have hT := C.2.2.2.2.2.1
  have oA : ∀ v ∈ As, zokv h v := fun v hv => o2 v (List.mem_append_left _ (List.mem_reverse.mpr hv))
  have oB : zokv h (zR (some b)) := o2 _ (List.mem_append_right _ List.mem_cons_self)
  have oR : ∀ v ∈ rest, zokv h v := fun v hv => o2 v (List.mem_append_right _ (List.mem_cons_of_mem _ hv))
  have hA := zA_sub (sz := H.size) hP (fun q hq => C.2.2.2.2.2.2.2.2.2.2.2.2.1 q (Nat.le_trans hS.1 hq))
  refine z_goes (vx_runI (As := As.map (zc ad)) (rest := rest.map (zc ad)) (nL := zMn Y) (b := ad b) ⟨C.1, C.2.1, C.2.2.2.1, C.2.2.2.2.1, hT⟩ (hc D dA ad H.size) (cwI As.length hT (zT_in (zWs_in M)) (by rw [zWs, hret]) rfl rfl (hT _ M.2.1) (hT _ hl) (hT _ V) hi M.2.2 ⟨hf.1, hf.2.1⟩) ⟨zB_blind, fun U hU hW => ⟨rfl, zB_for C hP hE hS (List.forall_mem_cons.mpr ⟨oB, oA⟩) hU hW⟩⟩ rfl (by rw [List.length_map]) hL.1 (by
    show List.map (zc ad) (As.reverse ++ zR (some b) :: rest) = _
    rw [List.map_append, List.map_cons, List.map_reverse]
    rfl) (lv_room (zcat_rest hr)) d ⟨hf.2.2.1, hf.2.2.2⟩) hS hA ?_ ?_
  · intro E h1 ad1 H1 locs1 q ce g1 g2 g3 g4 g5 g6 g7
    have K := kx E h1 g1 p e s m args below meth c D dA ad0 h0 A C H1 locs1 ad1 lm q ce g2 (zE_tr hE g3) g4 (zLO_E g3 o1 hL) (fun v hv => zokv_E g3 (o1 v hv)) g5 g6 g7
    rw [zmap_E g3 oR] at K
    exact K
  · intro v h1 ad1 H1 locs1 g1 g2 g3 g4 g5
    have K := kk v h1 g1 p e s m args below meth c D dA ad0 h0 A C H1 locs1 ad1 lm g2 (zE_tr hE g3) g4 (zLO_E g3 o1 hL) (fun v hv => zokv_E g3 (o1 v hv)) (fun w hw => by
      rcases List.mem_append.mp hw with hw | hw
      · cases v with
        | none => cases hw
        | some x =>
          rw [show (some x).toList = [x] from rfl, List.mem_singleton] at hw
          rw [hw]
          exact g5 x rfl
      · exact zokv_E g3 (oR w hw))
    rw [List.map_append, zmap_E g3 oR] at K
    cases v with
    | none => exact K
    | some x => exact K
theorem e_objInit {l : Launch} {Y : zM} {Q : zO → zH → Prop} {k n pc : Nat} {ls : List zV} {h : zH} {idx b : Nat} (d : decode (zMc Y) pc = .ok (.invokespecial idx, 3)) (hl : Cond.methodLink (zMy Y).cls idx Lib.objectInit ∈ zT) (hi : Cond.instanceMethod Lib.objectInit ∈ zT) (hco : Cond.code Lib.objectInit ⟨#[0xb1]⟩ 1 none ∈ zT) (hf : 1 ≤ (zMr Y).frames) (hlo : 12 ≤ (zMr Y).locals) (K : AW l Y Q k n (pc + 3) ls [] h) : AW l Y Q k n pc ls [zR (some b)] h := by
  intro p e s m args below meth c D dA ad0 h0 A C H locs ad lm hP hE hS hL o1 o2
  have hT := C.2.2.2.2.2.1
  have K := K p e s m args below meth c D dA ad0 h0 A C H locs ad lm hP hE hS hL o1 (zo_tl o2)
  have hsz : lm.size = c.maxLocals := by rw [C.2.2.2.1]; exact hL.1
  exact W.objInit (g := F0 m pc lm [.ref (ad b)]) (a := ad b) (rest := []) C.1 C.2.1 C.2.2.2.2.1 (hT _ hl) (hT _ hi) (hT _ hco) rfl hsz rfl d hf hlo K
/-! the ends -/
theorem e_iret {l : Launch} {Y : zM} {Q : zO → zH → Prop} {k n pc : Nat} {ls : List zV} {h : zH} {z : Int} {ty : FieldType} (d : decode (zMc Y) pc = .ok (.ireturn, 1)) (ht : zMt Y = some ty) (hz : zfit ty z) (hk : k ≤ (zMr Y).cells) (hn : n ≤ (zMr Y).slots) (hq : Q (.inl (some (zI z))) h) : AW l Y Q k n pc ls [zI z] h := by
  intro p e s m args below meth c D dA ad0 h0 A C H locs ad lm hP hE hS hL o1 o2
  refine vx_ret (W.widen hk hn ?_)
  exact W.zret C.1 C.2.1 (C.2.2.1.trans ht) (zfit_ok hz).1 (fun t h1 h2 => ⟨⟨some (zI z), h, ad, rfl, hq, by rw [h1]; exact zP_moved hP h2.alike, hE, fun w hw => by cases hw; trivial⟩, hS.F h1⟩) hS.2.2 d C.2.2.2.2.2.2.1
theorem e_vret {l : Launch} {Y : zM} {Q : zO → zH → Prop} {k n pc : Nat} {ls : List zV} {h : zH} (d : decode (zMc Y) pc = .ok (.return_, 1)) (ht : zMt Y = none) (hk : k ≤ (zMr Y).cells) (hn : n ≤ (zMr Y).slots) (hq : Q (.inl none) h) : AW l Y Q k n pc ls [] h := by
  intro p e s m args below meth c D dA ad0 h0 A C H locs ad lm hP hE hS hL o1 o2
  refine vx_ret (W.widen hk hn ?_)
  exact W.vret C.1 C.2.1 (C.2.2.1.trans ht) (fun t h1 h2 => ⟨⟨none, h, ad, rfl, hq, by rw [h1]; exact zP_moved hP h2.alike, hE, fun w hw => by cases hw⟩, hS.F h1⟩) hS.2.2 d C.2.2.2.2.2.2.1
theorem e_aret {l : Launch} {Y : zM} {Q : zO → zH → Prop} {k n pc : Nat} {ls : List zV} {h : zH} {r : Option Nat} {ty : FieldType} (d : decode (zMc Y) pc = .ok (.areturn, 1)) (ht : zMt Y = some ty) (hty : zIs ty = 1) (hk : k ≤ (zMr Y).cells) (hn : n ≤ (zMr Y).slots) (hq : Q (.inl (some (zR r))) h) : AW l Y Q k n pc ls [zR r] h := by
  intro p e s m args below meth c D dA ad0 h0 A C H locs ad lm hP hE hS hL o1 o2
  refine vx_ret (W.widen hk hn ?_)
  have hrt : (∃ n, ty = .object n) ∨ ∃ t, ty = .array t := by
    cases ty <;> first | (cases hty; done) | exact Or.inl ⟨_, rfl⟩ | exact Or.inr ⟨_, rfl⟩
  exact W.aret C.1 C.2.1 (C.2.2.1.trans ht) hrt (va_rf_or _) (fun t h1 h2 => ⟨⟨some (zR r), h, ad, rfl, hq, by rw [h1]; exact zP_moved hP h2.alike, hE, fun w hw => by cases hw; exact zo_hd o2⟩, hS.F h1⟩) hS.2.2 d C.2.2.2.2.2.2.1
theorem e_lret {l : Launch} {Y : zM} {Q : zO → zH → Prop} {k n pc : Nat} {ls : List zV} {h : zH} {z : Int} (d : decode (zMc Y) pc = .ok (.lreturn, 1)) (ht : zMt Y = some .long) (hk : k ≤ (zMr Y).cells) (hn : n ≤ (zMr Y).slots) (hq : Q (.inl (some (zL z))) h) : AW l Y Q k n pc ls [zL z] h := by
  intro p e s m args below meth c D dA ad0 h0 A C H locs ad lm hP hE hS hL o1 o2
  refine vx_ret (W.widen hk hn ?_)
  exact W.lret C.1 C.2.1 (C.2.2.1.trans ht) (fun t h1 h2 => ⟨⟨some (zL z), h, ad, rfl, hq, by rw [h1]; exact zP_moved hP h2.alike, hE, fun w hw => by cases hw; trivial⟩, hS.F h1⟩) hS.2.2 d C.2.2.2.2.2.2.1
/-! a method's beginning -/
theorem zsl_len {ad : Nat → Nat} : ∀ {As : List zV}, As.all z1 = true → (lg_sl (As.map (zc ad))).length = As.length
  | [], _ => rfl
  | v :: vs, h => by
    rw [List.all_cons, Bool.and_eq_true] at h
    have ih := zsl_len (ad := ad) h.2
    unfold lg_sl at ih ⊢
    rw [List.map_cons, List.flatMap_cons, List.length_append, ih, if_neg (by rw [z1_cat h.1]; decide)]
    simp [Nat.add_comm]
theorem zargs_mem {ad : Nat → Nat} : ∀ {As : List zV} {j i : Nat} {v : zV}, As.all z1 = true → As[i]? = some v → (j + i, zc ad v) ∈ lv_args j (As.map (zc ad))
  | [], j, i, v, _, hi => by simp at hi
  | w :: vs, j, i, v, h, hi => by
    rw [List.all_cons, Bool.and_eq_true] at h
    rw [List.map_cons, lv_args, if_neg (by rw [z1_cat h.1]; decide)]
    cases i with
    | zero =>
      rw [List.getElem?_cons_zero] at hi
      cases hi
      exact List.mem_cons_self
    | succ i =>
      rw [List.getElem?_cons_succ] at hi
      have := zargs_mem (ad := ad) (j := j + 1) h.2 hi
      rw [show j + (i + 1) = j + 1 + i by omega]
      exact List.mem_cons_of_mem _ this
theorem zC_of {l : Launch} {Y : zM} {As ls : List zV} {h : zH} {Q : zO → zH → Prop} (hl : l.stackTraces = false) (hsc : zMs Y = none) (hh : zMh Y = []) (hy : plainName (zMy Y).cls = true) (hls : As ++ List.replicate (zMn Y - As.length) zX = ls) (h1 : As.all z1 = true) (hlen : As.length ≤ zMn Y) (K : AW l Y Q 0 0 0 ls [] h) : zC l Y As h Q := by
  intro D dA ad sz
  refine vx_ofW (cc := zMc Y) (maxL := zMn Y) (ret := zMt Y) hy rfl ?_
  intro p e s m args below meth c s₁ B hml hex hv
  obtain ⟨ha, hsz, hP, hTK, hS0, hstr, hoks⟩ := hv
  subst ha
  have hts0 : ∀ w ∈ zWs Y, w.before (As.map (zc ad)).toArray s = true := atoms_spec (ws := zWs Y) B.pre
  have hlv := lv_entry (As.map (zc ad)) (n := zMn Y) (by rw [zsl_len h1]; exact hlen)
  have hex2 : c.exceptionTable.toList = [] := by
    cases hx : c.exceptionTable.toList with
    | nil => rfl
    | cons x xs => exact (hex x (by rw [hx]; exact List.mem_cons_self)).elim
  rw [lg_entry_eq]
  refine K p e s m _ below meth c D dA ad h (zA ad h sz) ⟨B.exec, B.bytes, B.returns, hml, findClass_of_methodNamed B.named, fun w hw => hts0 w (List.mem_cons_of_mem _ hw), B.notSynchronized, (name_of_methodNamed B.named B.method).1, by rw [hex2, hh]; rfl, hTK, hS0, hstr, fun q hq => Or.inr (by rw [← hsz]; exact hq), hl, by unfold zScr; rw [hsc]; trivial⟩ s.heap [] ad _ hP zE_rf va_S.rf ⟨hlv.1, hlv.2.1, fun i v hi hv => ?_⟩ ?_ (fun v hv => by cases hv)
  · subst hls
    by_cases hlt : i < As.length
    · rw [List.getElem?_append_left hlt] at hi
      have := hlv.2.2 _ (zargs_mem (ad := ad) (j := 0) h1 hi)
      rw [Nat.zero_add] at this
      exact this
    · rw [List.getElem?_append_right (by omega)] at hi
      exact absurd (List.mem_replicate.mp (List.mem_of_getElem? hi)).2 hv
  · intro v hv
    subst hls
    rcases List.mem_append.mp hv with hv | hv
    · exact hoks v hv
    · rw [(List.mem_replicate.mp hv).2]
      trivial
end
section
/-! making objects and rows -/
theorem nw_K {h : zH} {n kd m : Nat} {len : Int} : zK (nw h n kd len) m = if m = n then kd else zK h m := rfl
theorem zok_nw {h : zH} {n kd : Nat} {len : Int} {r : Option Nat} (hkd : kd ≠ 0) (hr : zok h r) : zok (nw h n kd len) r := by
  intro m hm
  rcases hr m hm with y | y
  · exact Or.inl y
  · refine Or.inr ?_
    rw [nw_K]
    split
    · exact hkd
    · exact y
theorem zG_nw {h : zH} {n kd : Nat} {len : Int} (g : zG h) (hn : n ≠ 0) (hkd : kd ≠ 0) (hkr : kd < 11 ∨ (100 ≤ kd ∧ kd < 108)) (hl : 0 ≤ len ∧ len < 2147483648) : zG (nw h n kd len) := by
  obtain ⟨g1, g2, g3, g4, g5, g6, g7, g8⟩ := g
  refine ⟨fun i m => ?_, fun m j => ?_, fun i m => ?_, fun m j => ?_, fun m => ?_, ?_, fun m hm => ?_, fun m j hm => ?_⟩
  · show zin (if m = n then 0 else zf h i m)
    split
    · exact zin_0
    · exact g1 i m
  · show zin (if m = n then 0 else za h m j)
    split
    · exact zin_0
    · exact g2 m j
  · show zok _ (if m = n then none else zr h i m)
    split
    · exact zok_none
    · exact zok_nw hkd (g3 i m)
  · show zok _ (if m = n then none else zq h m j)
    split
    · exact zok_none
    · exact zok_nw hkd (g4 m j)
  · show 0 ≤ (if m = n then len else zN h m) ∧ (if m = n then len else zN h m) < 2147483648
    split
    · exact hl
    · exact g5 m
  · rw [nw_K, if_neg (fun y => hn y.symm)]
    exact g6
  · rw [nw_K] at hm ⊢
    split at hm
    · rename_i e
      rw [if_pos e]
      exact hkr
    · rename_i e
      rw [if_neg e]
      exact g7 m hm
  · show (if m = n then 0 else za h m j) = 0 ∨ (if m = n then 0 else za h m j) = 1
    rw [nw_K] at hm
    split
    · exact Or.inl rfl
    · rename_i e
      rw [if_neg e] at hm
      exact g8 m j hm
/-- the naming with one name more -/
def zad (ad : Nat → Nat) (n q : Nat) : Nat → Nat := fun m => if m = n then q else ad m
theorem zad_E {h : zH} {n kd q : Nat} {len : Int} {ad : Nat → Nat} (hn : 1 < n) (hK : zK h n = 0) : zE h ad (nw h n kd len) (zad ad n q) := by
  refine ⟨fun m hm => ?_, fun m hm => ?_⟩
  · unfold zad
    rw [if_neg]
    intro y
    subst y
    rcases hm with y | y
    · omega
    · exact y hK
  · rw [nw_K, if_neg]
    intro y
    subst y
    exact hm hK
theorem zmap_ad {h : zH} {n q : Nat} {ad : Nat → Nat} {r : Option Nat} (hn : n ≠ 0) (hK : zK h n = 0) (hr : zok h r) : r.map (zad ad n q) = r.map ad := by
  cases r with
  | none => rfl
  | some a =>
    refine congrArg some ?_
    unfold zad
    rw [if_neg]
    intro y
    subst y
    rcases hr a rfl with y | y
    · exact hn y
    · exact y hK
theorem zEn_nw {dA : Nat → ClassId} {h : zH} {n kd q m : Nat} {len : Int} {ad : Nat → Nat} (g : zG h) (hn : n ≠ 0) (hK : zK h n = 0) (hm : m ≠ n) : zEn dA (zad ad n q) (nw h n kd len) m = zEn dA ad h m := by
  refine zEn_congr (if_neg hm) (if_neg hm) (fun i => if_neg hm) (fun j => if_neg hm) (fun i => ?_) (fun j => ?_) (fun i => if_neg hm) (fun j => if_neg hm) (fun j => if_neg hm)
  · show (if m = n then none else zr h i m).map _ = _
    rw [if_neg hm]
    exact zmap_ad hn hK (g.2.2.1 i m)
  · show (if m = n then none else zq h m j).map _ = _
    rw [if_neg hm]
    exact zmap_ad hn hK (g.2.2.2.1 m j)
theorem zP_made {s : State} {D : va_G} {dA : Nat → ClassId} {A : Nat → Prop} {ad : Nat → Nat} {h : zH} {H1 : Heap} {L : List Nat} {tys : List (ClassId × FieldType)} {n kd q : Nat} {len : Int} {E : va_E} (g : zG h) (hn : n ≠ 0) (hK : zK h n = 0) (hkd : kd ≠ 0) (hkr : kd < 11 ∨ (100 ≤ kd ∧ kd < 108)) (hl : 0 ≤ len ∧ len < 2147483648) (h1 : va_K D zCl tys s) (h2 : ∀ n, n ∈ L ↔ zK h n ≠ 0) (h3 : ∀ n ∈ L, 100 ≤ zK h n → (dA (zK h n - 100), zAt (zK h n - 100)) ∈ tys) (h9 : 100 ≤ kd → (dA (kd - 100), zAt (kd - 100)) ∈ tys) (hE : zEn dA (zad ad n q) (nw h n kd len) n = E)
    (hP1 : va_P D zCl (zW dA ad h L ++ [(q, E)]) H1) (hD1 : va_D A (zW dA ad h L ++ [(q, E)])) : zP s D dA A (zad ad n q) (nw h n kd len) H1 := by
  have hnL : n ∉ L := fun y => (h2 n).mp y hK
  rw [zW_push (ad' := zad ad n q) (h' := nw h n kd len) (n := n) (if_pos rfl) hE (fun m hm => ⟨if_neg (fun (y : m = n) => hnL (y ▸ hm)), zEn_nw g hn hK (fun (y : m = n) => hnL (y ▸ hm))⟩)] at hP1 hD1
  refine ⟨zG_nw g hn hkd hkr hl, L ++ [n], tys, h1, fun m => ?_, fun m hm => ?_, hP1, hD1⟩
  · rw [nw_K, List.mem_append, List.mem_singleton]
    by_cases e : m = n
    · rw [if_pos e]
      exact ⟨fun _ => hkd, fun _ => Or.inr e⟩
    · rw [if_neg e]
      exact ⟨fun y => (h2 m).mp (y.resolve_right e), fun y => Or.inl ((h2 m).mpr y)⟩
  · rw [nw_K]
    by_cases e : m = n
    · rw [if_pos e]
      exact h9
    · rw [if_neg e]
      exact h3 m (((List.mem_append.mp hm).resolve_right (fun y => e (List.mem_singleton.mp y))))
theorem zdef {ad : Nat → Nat} {h : zH} {ty : FieldType} {i n kd : Nat} {len : Int} (ht : zIs ty ≠ 3) : defaultValue ty = zFv ad (nw h n kd len) ty i n := by
  have e1 : zf (nw h n kd len) i n = 0 := if_pos rfl
  have e2 : zr (nw h n kd len) i n = none := if_pos rfl
  have e3 : zl (nw h n kd len) i n = 0 := if_pos rfl
  cases ty <;> first | (exact absurd rfl ht) | (unfold zFv; rw [e1]; rfl) | (unfold zFv; rw [e2]; rfl) | (unfold zFv; rw [e3]; rfl)
theorem zIs3 (ci : Nat) (h : ci < 10) : ∀ k, k < zFn ci → zIs (zTy ci k) ≠ 3 := by
  match ci, h with
  | 0, _ => decide +kernel
  | 1, _ => decide +kernel
  | 2, _ => decide +kernel
  | 3, _ => decide +kernel
  | 4, _ => decide +kernel
  | 5, _ => decide +kernel
  | 6, _ => decide +kernel
  | 7, _ => decide +kernel
  | 8, _ => decide +kernel
  | 9, _ => decide +kernel
theorem e_new {l : Launch} {Y : zM} {Q : zO → zH → Prop} {k n pc : Nat} {ls st : List zV} {h : zH} {idx ci : Nat} (a : Nat) (d : decode (zMc Y) pc = .ok (.new idx, 3)) (hci : ci < 10) (w1 : Cond.classLink (zMy Y).cls idx (zCn ci) ∈ zT) (w2 : Cond.instantiable (zCn ci) (zFn ci) ∈ zT) (w3 : Cond.initialized (zCn ci) ∈ zT) (ha : 1 < a) (hK : zK h a = 0) (hk : k + 1 ≤ (zMr Y).cells) (hn : n + zFn ci ≤ (zMr Y).slots) (K : AW l Y Q (k + 1) (n + zFn ci) (pc + 3) ls (zR (some a) :: st) (nw h a (ci + 1) 0)) : AW l Y Q k n pc ls st h := by
  intro p e s m args below meth c D dA ad0 h0 A C H locs ad lm hP hE hS hL o1 o2
  have hT := C.2.2.2.2.2.1
  obtain ⟨g, L, tys, h1, h2, h3, h4, h5⟩ := hP
  have hEn : ∀ q, zEn dA (zad ad a q) (nw h a (ci + 1) 0) a = .inr (ci, zOb ad (nw h a (ci + 1) 0) ci a) := by
    intro q
    rw [zEn_o (by rw [nw_K, if_pos rfl]) hci]
    congr 2
    apply List.ext_getElem?
    intro j
    by_cases hj : j < zFn ci
    · rw [zOb_at hj, zOb_at hj, ← zdef (zIs3 ci hci j hj), ← zdef (zIs3 ci hci j hj)]
    · rw [List.getElem?_eq_none (by rw [zOb_len]; omega), List.getElem?_eq_none (by rw [zOb_len]; omega)]
  refine va_new C.1 C.2.1 hT (zCl_ws ci hci) (zTy ci) (zCl_ty ci hci) C.2.2.2.2.1 (hT _ w1) (hT _ w2) (hT _ w3) h1 h4 h5 hS C.2.2.2.2.2.2.2.2.2.2.2.2.1 (zCl_at ci hci) (fs := zOb ad (nw h a (ci + 1) 0) ci a) (fun j hj => ?_) hk hn d (fun q H1 p1 p2 p3 => ?_)
  · unfold vp_V
    rw [List.getD_eq_getElem?_getD, zOb_at hj]
    exact zdef (zIs3 ci hci j hj)
  · have hE2 := zad_E (kd := ci + 1) (q := q) (len := 0) (ad := ad) ha hK
    have K := K p e s m args below meth c D dA ad0 h0 A C H1 locs (zad ad a q) lm (zP_made g (by omega) hK (by omega) (by omega) (by omega) h1 h2 h3 (by omega) (hEn q) p1 p2) (zE_tr hE hE2) p3 (zLO_E hE2 o1 hL) (fun v hv => zokv_E hE2 (o1 v hv)) (zo_cons (fun y hy => by cases hy; exact Or.inr (by rw [nw_K, if_pos rfl]; omega)) (fun v hv => zokv_E hE2 (o2 v hv)))
    rw [List.map_cons, zmap_E hE2 o2, zc_a] at K
    unfold zad at K
    rw [if_pos rfl] at K
    exact K
theorem zTK_row {s : State} {dA : Nat → ClassId} {t : Nat} {cA : ClassId} {D : va_G} {tys : List (ClassId × FieldType)} (hTK : zTK s dA) (hK : va_K D zCl (tys ++ [(cA, zAt t)]) s) : cA = dA t := by
  have h9 := (hK.2 tys.length (cA, zAt t) (by rw [List.getElem?_append_right (Nat.le_refl _), Nat.sub_self]; rfl)).2
  have key : s.vm.findClass ("[" ++ (zAt t).toString) = some cA := by
    cases hz : zAt t with
    | object C =>
      rw [hz] at h9
      obtain ⟨_, _, _, _, _, h4⟩ := h9
      exact h4
    | _ => rw [hz] at h9; exact h9
  exact (hTK t cA key).symm
theorem zrow_new {ad : Nat → Nat} {h : zH} {a kd t : Nat} {len : Int} (hl : 0 ≤ len) (ht : t < 4) : ∀ cA : ClassId, vp_cell cA (zRw ad (nw h a kd len) t a) = arrV cA len.toNat (fun _ => defaultValue (zAt t)) := by
  intro cA
  have e0 : zN (nw h a kd len) a = len := if_pos rfl
  have e1 : ∀ j, za (nw h a kd len) a j = 0 := fun j => if_pos rfl
  have e2 : ∀ j, zm (nw h a kd len) a j = 0 := fun j => if_pos rfl
  have e3 : ∀ j, zd (nw h a kd len) a j = 0 := fun j => if_pos rfl
  match t, ht with
  | 0, _ => simp only [zRw, e0, e1]; rfl
  | 1, _ => simp only [zRw, e0, e1]; rfl
  | 2, _ => simp only [zRw, e0, e2]; rfl
  | 3, _ => simp only [zRw, e0, e3]; rfl
theorem zRw_ad {h : zH} {a kd t : Nat} {len : Int} {ad ad' : Nat → Nat} : zRw ad' (nw h a kd len) t a = zRw ad (nw h a kd len) t a := by
  have e3 : ∀ j, zq (nw h a kd len) a j = none := fun j => if_pos rfl
  unfold zRw
  split <;> simp only [e3, Option.map_none]
theorem e_newa {l : Launch} {Y : zM} {Q : zO → zH → Prop} {k n pc : Nat} {ls st : List zV} {h : zH} {atype : ArrayType} {len : Int} (a t N : Nat) (d : decode (zMc Y) pc = .ok (.newarray atype, 2)) (ht : t < 4) (hty : newarray.typeOf atype = zAt t) (w1 : Cond.arrayClass (newarray.typeOf atype) ∈ zT) (hlen : len = (N : Int)) (hN : N ≤ 100000) (ha : 1 < a) (hK : zK h a = 0) (hk : k + 1 ≤ (zMr Y).cells) (hn : n + N ≤ (zMr Y).slots) (K : AW l Y Q (k + 1) (n + N) (pc + 2) ls (zR (some a) :: st) (nw h a (100 + t) len)) : AW l Y Q k n pc ls (zI len :: st) h := by
  intro p e s m args below meth c D dA ad0 h0 A C H locs ad lm hP hE hS hL o1 o2
  have hT := C.2.2.2.2.2.1
  obtain ⟨g, L, tys, h1, h2, h3, h4, h5⟩ := hP
  have hin : zin len := ⟨by omega, by omega⟩
  refine va_newa C.1 C.2.1 (hT _ w1) hty h1 h4 h5 hS C.2.2.2.2.2.2.2.2.2.2.2.2.1 (n := Int32.ofInt len) (N' := N) (a0 := zRw ad (nw h a (100 + t) len) t a) (fun cA => ?_) (fun y => ?_) ?_ ?_ hk hn d (fun q cA H1 p0 p1 p2 p3 => ?_)
  · rw [zrow_new (by omega) ht]
    congr 1
    omega
  · have := (zin_lt hin zin_0).mp y
    omega
  · rw [zcl (by omega) hin]
    omega
  · have : componentBytes (zAt t) ≤ 8 := by
      match t, ht with
      | 0, _ => decide
      | 1, _ => decide
      | 2, _ => decide
      | 3, _ => decide
    have := Nat.mul_le_mul hN this
    omega
  · have hcA : cA = dA t := zTK_row C.2.2.2.2.2.2.2.2.2.1 p0
    subst hcA
    have hE2 := zad_E (kd := 100 + t) (q := q) (len := len) (ad := ad) ha hK
    have hEn : zEn dA (zad ad a q) (nw h a (100 + t) len) a = .inl (dA t, zRw ad (nw h a (100 + t) len) t a) := by
      rw [zEn_r (t := t) (by rw [nw_K, if_pos rfl]), zRw_ad (ad := ad)]
    have K := K p e s m args below meth c D dA ad0 h0 A C H1 locs (zad ad a q) lm (zP_made g (by omega) hK (by omega) (by omega) (by omega) p0 h2 (fun m hm y => List.mem_append_left _ (h3 m hm y)) (fun _ => List.mem_append_right _ (by rw [Nat.add_sub_cancel_left]; exact List.mem_singleton.mpr rfl)) hEn p1 p2) (zE_tr hE hE2) p3 (zLO_E hE2 o1 hL) (fun v hv => zokv_E hE2 (o1 v hv)) (zo_cons (fun y hy => by cases hy; exact Or.inr (by rw [nw_K, if_pos rfl]; omega)) (fun v hv => zokv_E hE2 (zo_tl o2 v hv)))
    rw [List.map_cons, zmap_E hE2 (zo_tl o2), zc_a] at K
    unfold zad at K
    rw [if_pos rfl] at K
    exact K
theorem e_newq {l : Launch} {Y : zM} {Q : zO → zH → Prop} {k n pc : Nat} {ls st : List zV} {h : zH} {idx : Nat} {len : Int} {E : String} (a t N : Nat) (d : decode (zMc Y) pc = .ok (.anewarray idx, 3)) (ht4 : 4 ≤ t) (ht : t < 8) (hty : zAt t = .object E) (w1 : Cond.classLink (zMy Y).cls idx E ∈ zT) (w2 : E ∈ zOv) (hlen : len = (N : Int)) (hN : N ≤ 100000) (ha : 1 < a) (hK : zK h a = 0) (hk : k + 1 ≤ (zMr Y).cells) (hn : n + N ≤ (zMr Y).slots) (K : AW l Y Q (k + 1) (n + N) (pc + 3) ls (zR (some a) :: st) (nw h a (100 + t) len)) : AW l Y Q k n pc ls (zI len :: st) h := by
  intro p e s m args below meth c D dA ad0 h0 A C H locs ad lm hP hE hS hL o1 o2
  have hT := C.2.2.2.2.2.1
  obtain ⟨g, L, tys, h1, h2, h3, h4, h5⟩ := hP
  have hin : zin len := ⟨by omega, by omega⟩
  have hov : va_AO E s := C.2.2.2.2.2.2.2.2.2.2.2.1.2.2.2.2.2 E w2
  refine va_newq C.1 C.2.1 C.2.2.2.2.1 (hT _ w1) hov h1 h4 h5 hS C.2.2.2.2.2.2.2.2.2.2.2.2.1 (n := Int32.ofInt len) (N' := N) (fun y => ?_) ?_ ?_ hk hn d (fun q cA H1 p0 p1 p2 p3 => ?_)
  · have := (zin_lt hin zin_0).mp y
    omega
  · rw [zcl (by omega) hin]
    omega
  · omega
  · rw [← hty] at p0
    have hcA : cA = dA t := zTK_row C.2.2.2.2.2.2.2.2.2.1 p0
    subst hcA
    have hE2 := zad_E (kd := 100 + t) (q := q) (len := len) (ad := ad) ha hK
    have hEn : zEn dA (zad ad a q) (nw h a (100 + t) len) a = .inl (dA t, N, .inr (.inr (.inr (.inr (fun _ => none))))) := by
      rw [zEn_r (t := t) (by rw [nw_K, if_pos rfl]), zRw_q ht4]
      have e0 : zN (nw h a (100 + t) len) a = len := if_pos rfl
      have e3 : ∀ j, zq (nw h a (100 + t) len) a j = none := fun j => if_pos rfl
      simp only [e0, e3, Option.map_none]
      rw [hlen]
      rfl
    have K := K p e s m args below meth c D dA ad0 h0 A C H1 locs (zad ad a q) lm (zP_made g (by omega) hK (by omega) (by omega) (by omega) p0 h2 (fun m hm y => List.mem_append_left _ (h3 m hm y)) (fun _ => List.mem_append_right _ (by rw [Nat.add_sub_cancel_left]; exact List.mem_singleton.mpr rfl)) hEn p1 p2) (zE_tr hE hE2) p3 (zLO_E hE2 o1 hL) (fun v hv => zokv_E hE2 (o1 v hv)) (zo_cons (fun y hy => by cases hy; exact Or.inr (by rw [nw_K, if_pos rfl]; omega)) (fun v hv => zokv_E hE2 (zo_tl o2 v hv)))
    rw [List.map_cons, zmap_E hE2 (zo_tl o2), zc_a] at K
    unfold zad at K
    rw [if_pos rfl] at K
    exact K
theorem e_cast {l : Launch} {Y : zM} {Q : zO → zH → Prop} {k n pc : Nat} {ls st : List zV} {h : zH} {idx b cb : Nat} (d : decode (zMc Y) pc = .ok (.checkcast idx, 3)) (w1 : Cond.classLink (zMy Y).cls idx (zCn cb) ∈ zT) (hcb : cb < 10) (hK : zK h b = cb + 1) (K : AW l Y Q k n (pc + 3) ls (zR (some b) :: st) h) : AW l Y Q k n pc ls (zR (some b) :: st) h := by
  intro p e s m args below meth c D dA ad0 h0 A C H locs ad lm hP hE hS hL o1 o2
  have hT := C.2.2.2.2.2.1
  have K := K p e s m args below meth c D dA ad0 h0 A C H locs ad lm hP hE hS hL o1 o2
  obtain ⟨L, tys, q0, h1, h2, h3, h4, h5, hq⟩ := zP_at hP (n := b) (by rw [hK]; omega)
  have hrecv := va_recv h1 h4 (zCl_at cb hcb) ((zW_at (dA := dA) (ad := ad) (h := h) hq).trans (by rw [zEn_o hK hcb]))
  exact va_castS C.1 C.2.1 C.2.2.2.2.1 (hT _ w1) (h1.1 cb _ (zCl_at cb hcb)).2 hrecv d K
theorem e_max {l : Launch} {Y : zM} {Q : zO → zH → Prop} {k n pc : Nat} {ls st : List zV} {h : zH} {idx : Nat} {a b : Int} (d : decode (zMc Y) pc = .ok (.invokestatic idx, 3)) (w1 : Cond.methodLink (zMy Y).cls idx Lib.Math.max.name ∈ zT) (w2 : Cond.static Lib.Math.max.name ∈ zT) (w3 : Cond.initialized "java/lang/Math" ∈ zT) (w4 : Cond.code Lib.Math.max.name Lib.Math.max.code 2 (some .int) ∈ zT) (hr : st.length ≤ 4) (hf : 1 ≤ (zMr Y).frames) (hlo : 21 ≤ (zMr Y).locals) (hk : k ≤ (zMr Y).cells) (hn : n ≤ (zMr Y).slots) (ha : zin a) (hbb : zin b) (K : AW l Y Q k n (pc + 3) ls (zI (if a < b then b else a) :: st) h) : AW l Y Q k n pc ls (zI b :: zI a :: st) h := by
  intro p e s m args below meth c D dA ad0 h0 A C H locs ad lm hP hE hS hL o1 o2
  have hT := C.2.2.2.2.2.1
  have K := K p e s m args below meth c D dA ad0 h0 A C H locs ad lm hP hE hS hL o1 (zo_cons trivial (zo_tl (zo_tl o2)))
  refine va_mmax C.1 C.2.1 (by rw [C.2.2.2.1]; exact hL.1.symm) C.2.2.2.2.1 (hT _ w1) (hT _ w2) (hT _ w3) (hT _ w4) hf (by have := zcat_rest (ad := ad) hr; omega) hk hn d ?_
  rw [show (if Int32.ofInt a < Int32.ofInt b then Int32.ofInt b else Int32.ofInt a) = Int32.ofInt (if a < b then b else a) by
    by_cases e : a < b
    · rw [if_pos e, if_pos ((zin_lt ha hbb).mpr e)]
    · rw [if_neg e, if_neg (fun y => e ((zin_lt ha hbb).mp y))]]
  exact K
theorem e_min {l : Launch} {Y : zM} {Q : zO → zH → Prop} {k n pc : Nat} {ls st : List zV} {h : zH} {idx : Nat} {a b : Int} (d : decode (zMc Y) pc = .ok (.invokestatic idx, 3)) (w1 : Cond.methodLink (zMy Y).cls idx Lib.Math.min.name ∈ zT) (w2 : Cond.static Lib.Math.min.name ∈ zT) (w3 : Cond.initialized "java/lang/Math" ∈ zT) (w4 : Cond.code Lib.Math.min.name Lib.Math.min.code 2 (some .int) ∈ zT) (hr : st.length ≤ 4) (hf : 1 ≤ (zMr Y).frames) (hlo : 21 ≤ (zMr Y).locals) (hk : k ≤ (zMr Y).cells) (hn : n ≤ (zMr Y).slots) (ha : zin a) (hbb : zin b) (K : AW l Y Q k n (pc + 3) ls (zI (if b < a then b else a) :: st) h) : AW l Y Q k n pc ls (zI b :: zI a :: st) h := by
  intro p e s m args below meth c D dA ad0 h0 A C H locs ad lm hP hE hS hL o1 o2
  have hT := C.2.2.2.2.2.1
  have K := K p e s m args below meth c D dA ad0 h0 A C H locs ad lm hP hE hS hL o1 (zo_cons trivial (zo_tl (zo_tl o2)))
  refine va_mmin C.1 C.2.1 (by rw [C.2.2.2.1]; exact hL.1.symm) C.2.2.2.2.1 (hT _ w1) (hT _ w2) (hT _ w3) (hT _ w4) hf (by have := zcat_rest (ad := ad) hr; omega) hk hn d ?_
  rw [show (if Int32.ofInt b < Int32.ofInt a then Int32.ofInt b else Int32.ofInt a) = Int32.ofInt (if b < a then b else a) by
    by_cases e : b < a
    · rw [if_pos e, if_pos ((zin_lt hbb ha).mpr e)]
    · rw [if_neg e, if_neg (fun y => e ((zin_lt hbb ha).mp y))]]
  exact K
end
section
/-! throws, nest mates, copies -/
def zNs : List String := ["java/lang/RuntimeException", "java/lang/Exception"]
theorem zthrow {Q : zO → zH → Prop} {s : State} {D : va_G} {dA : Nat → ClassId} {ad0 ad : Nat → Nat} {h0 h : zH} {A : Nat → Prop} {H : Heap} {locs : List Loc} {E : String} (hP : zP s D dA A ad h H) (hE : zE h0 ad0 h ad) (hS : va_S A s.heap H locs) (hq : Q (.inr E) h) (t : State) (hvm : s.vm.Alike t.vm) (h1 : H.size ≤ t.heap.size) (h2 : ∀ q : Nat, q < H.size → t.heap[q]? = H[q]?) : zXc D dA ad0 h0 Q A E s t := by
  obtain ⟨g, L, tys, k1, k2, k3, k4, k5⟩ := hP
  refine ⟨⟨h, ad, hq, ⟨g, L, tys, va_K.moved hvm k1, k2, k3, k4.kept (fun i q hi => h2 q.1 (vx_lt k4 hi)), k5⟩, hE⟩, Nat.le_trans hS.1 h1, fun q hq1 hq2 => ?_⟩
  rw [h2 q (Nat.lt_of_lt_of_le hq1 hS.1)]
  exact hS.2.1 q hq1 hq2
/-- the words of a throw: good ones that the tables have, and one cast -/
def zAtOk (own : String) (ic : Nat) (cls : String) : Prop := (∀ w ∈ (vx_atS own ic cls zNs).filter goodWord, w ∈ lw_tbl) ∧ ∀ w ∈ (vx_atS own ic cls zNs).filter (fun w => !goodWord w), (w = Cond.castable cls cls ∨ ∃ x ∈ zDe, w = Cond.declares x)
theorem zat_cases {own cls : String} {ic : Nat} (h1 : ∀ w ∈ (vx_atS own ic cls zNs).filter goodWord, w ∈ lw_tbl) (h2 : ∀ w ∈ (vx_atS own ic cls zNs).filter (fun w => !goodWord w), w ∈ Cond.castable cls cls :: zDe.map Cond.declares) : zAtOk own ic cls := ⟨h1, fun w hw => by
  rcases List.mem_cons.mp (h2 w hw) with y | y
  · exact Or.inl y
  · obtain ⟨x, hx, rfl⟩ := List.mem_map.mp y
    exact Or.inr ⟨x, hx, rfl⟩⟩
theorem zat_ot {own cls : String} {ic : Nat} {w : Cond} (h : zAtOk own ic cls) (hw : w ∈ vx_atS own ic cls zNs) : vx_ot w = true := by
  unfold vx_ot
  cases hg : goodWord w with
  | true => rw [Bool.or_true]
  | false =>
    rcases h.2 w (List.mem_filter.mpr ⟨hw, by rw [hg]; rfl⟩) with y | ⟨x, -, y⟩ <;> rw [y] <;> rfl
theorem zat_hat {own cls : String} {ic : Nat} {args : Array Value} {s : State} (h : zAtOk own ic cls) (hT : ∀ w ∈ zT, w.before args s = true) (hc : va_Nw (.castable cls cls) s) (hd : ∀ x ∈ zDe, va_Nw (.declares x) s) : ∀ w ∈ vx_atS own ic cls zNs, w.before args s = true :=
  vx_hat (B := Cond.castable cls cls :: zDe.map Cond.declares) (fun w hw => hT w (zTm (h.1 w hw) (List.mem_filter.mp hw).2)) (fun w hw => by
    rcases h.2 w hw with y | ⟨x, hx, y⟩
    · rw [y]; exact List.mem_cons_self
    · rw [y]; exact List.mem_cons_of_mem _ (List.mem_map.mpr ⟨x, hx, rfl⟩)) (fun w hw => by
    rcases List.mem_cons.mp hw with y | y
    · rw [y]
      exact va_Nw.use rfl hc
    · obtain ⟨x, hx, rfl⟩ := List.mem_map.mp y
      exact va_Nw.use rfl (hd x hx))
theorem e_throw {l : Launch} {Y : zM} {Q : zO → zH → Prop} {k n pc : Nat} {ls st : List zV} {h : zH} {cls text : String} {ik is ic : Nat} (d0 : decode (zMc Y) pc = .ok (.new ik, 3)) (d3 : decode (zMc Y) (pc + 3) = .ok (.dup, 1)) (d4 : decode (zMc Y) (pc + 4) = .ok (.ldc is, 2)) (d6 : decode (zMc Y) (pc + 6) = .ok (.invokespecial ic, 3)) (d9 : decode (zMc Y) (pc + 9) = .ok (.athrow, 1)) (hfit : Bundle.fit cls = true) (w1 : Cond.classLink (zMy Y).cls ik cls ∈ zT) (w2 : Cond.initialized cls ∈ zT) (hstr : ((zMy Y).cls, is, text) ∈ zSs) (hcx : (cls, cls) ∈ zCa) (hat : zAtOk (zMy Y).cls ic cls) (hh : zMh Y = []) (hf : 5 < (zMr Y).frames) (hlo : 90 ≤ (zMr Y).locals) (hst : st.length ≤ 4) (hk : k + 1 ≤ (zMr Y).cells) (hn : n + 6 ≤ (zMr Y).slots) (hq : Q (.inr cls) h) : AW l Y Q k n pc ls st h := by
  intro p e s m args below meth c D dA ad0 h0 A C H locs ad lm hP hE hS hL o1 o2
  have hT := C.2.2.2.2.2.1
  have ht : c.exceptionTable.toList = [] := by
    rw [C.2.2.2.2.2.2.2.2.1, hh]
    rfl
  obtain ⟨sa, hsa⟩ := C.2.2.2.2.2.2.2.2.2.2.2.1.1 _ hstr
  have hcat := zcat_rest (ad := ad) hst
  have hgood : ∀ w ∈ Cond.classLink (zMy Y).cls ik cls :: Cond.initialized cls :: vx_atS (zMy Y).cls ic cls zNs, vx_ot w = true := by
    intro w hw
    rcases List.mem_cons.mp hw with rfl | hw
    · unfold vx_ot
      rw [(List.mem_filter.mp w1).2, Bool.or_true]
    · rcases List.mem_cons.mp hw with rfl | hw
      · unfold vx_ot
        rw [(List.mem_filter.mp w2).2, Bool.or_true]
      · exact zat_ot hat hw
  exact vx_throwS C.1 C.2.1 C.2.2.2.2.2.2.2.2.2.2.2.2.2.1 C.2.2.2.2.1 hfit (by decide) (hT _ w1) (hT _ w2) hsa (zat_hat hat hT (C.2.2.2.2.2.2.2.2.2.2.2.1.2.2.1 _ hcx) C.2.2.2.2.2.2.2.2.2.2.2.1.2.2.2.1) hgood C.2.2.2.2.2.2.2.2.2.2.1.1 C.2.2.2.2.2.2.2.2.2.2.1.2.1 hS (by rw [C.2.2.2.1]; exact hL.1) d0 d3 d4 d6 d9 (fun x hx => by rw [ht] at hx; cases hx) hf (by show _ + (13 * (2 + 1) + 43) ≤ _; omega) hk hn C.2.2.2.2.2.2.1 (zthrow hP hE hS hq) hS.2.2 hk hn
theorem e_throwW {l : Launch} {Y : zM} {Q : zO → zH → Prop} {k n pc : Nat} {ls st : List zV} {h : zH} {cls text : String} {ik is ic : Nat} (d0 : decode (zMc Y) pc = .ok (.new ik, 3)) (d3 : decode (zMc Y) (pc + 3) = .ok (.dup, 1)) (d4 : decode (zMc Y) (pc + 4) = .ok (.ldc_w is, 3)) (d7 : decode (zMc Y) (pc + 7) = .ok (.invokespecial ic, 3)) (d10 : decode (zMc Y) (pc + 10) = .ok (.athrow, 1)) (hfit : Bundle.fit cls = true) (w1 : Cond.classLink (zMy Y).cls ik cls ∈ zT) (w2 : Cond.initialized cls ∈ zT) (hstr : ((zMy Y).cls, is, text) ∈ zSs) (hcx : (cls, cls) ∈ zCa) (hat : zAtOk (zMy Y).cls ic cls) (hh : zMh Y = []) (hf : 5 < (zMr Y).frames) (hlo : 90 ≤ (zMr Y).locals) (hst : st.length ≤ 4) (hk : k + 1 ≤ (zMr Y).cells) (hn : n + 6 ≤ (zMr Y).slots) (hq : Q (.inr cls) h) : AW l Y Q k n pc ls st h := by
  intro p e s m args below meth c D dA ad0 h0 A C H locs ad lm hP hE hS hL o1 o2
  have hT := C.2.2.2.2.2.1
  have ht : c.exceptionTable.toList = [] := by
    rw [C.2.2.2.2.2.2.2.2.1, hh]
    rfl
  obtain ⟨sa, hsa⟩ := C.2.2.2.2.2.2.2.2.2.2.2.1.1 _ hstr
  have hcat := zcat_rest (ad := ad) hst
  have hgood : ∀ w ∈ Cond.classLink (zMy Y).cls ik cls :: Cond.initialized cls :: vx_atS (zMy Y).cls ic cls zNs, vx_ot w = true := by
    intro w hw
    rcases List.mem_cons.mp hw with rfl | hw
    · unfold vx_ot
      rw [(List.mem_filter.mp w1).2, Bool.or_true]
    · rcases List.mem_cons.mp hw with rfl | hw
      · unfold vx_ot
        rw [(List.mem_filter.mp w2).2, Bool.or_true]
      · exact zat_ot hat hw
  exact vx_throwSW C.1 C.2.1 C.2.2.2.2.2.2.2.2.2.2.2.2.2.1 C.2.2.2.2.1 hfit (by decide) (hT _ w1) (hT _ w2) hsa (zat_hat hat hT (C.2.2.2.2.2.2.2.2.2.2.2.1.2.2.1 _ hcx) C.2.2.2.2.2.2.2.2.2.2.2.1.2.2.2.1) hgood C.2.2.2.2.2.2.2.2.2.2.1.1 C.2.2.2.2.2.2.2.2.2.2.1.2.1 hS (by rw [C.2.2.2.1]; exact hL.1) d0 d3 d4 d7 d10 (fun x hx => by rw [ht] at hx; cases hx) hf (by show _ + (13 * (2 + 1) + 43) ≤ _; omega) hk hn C.2.2.2.2.2.2.1 (zthrow hP hE hS hq) hS.2.2 hk hn
theorem zat_1 : zAtOk RX8 34 "java/lang/IllegalStateException" := zat_cases (by decide +kernel) (by decide +kernel)
theorem zat_2 : zAtOk RX8 52 "java/lang/IllegalArgumentException" := zat_cases (by decide +kernel) (by decide +kernel)
theorem zat_3 : zAtOk RX8 249 "java/lang/IndexOutOfBoundsException" := zat_cases (by decide +kernel) (by decide +kernel)
theorem zat_4 : zAtOk RX8 194 "java/lang/UnsupportedOperationException" := zat_cases (by decide +kernel) (by decide +kernel)
theorem e_aastO {l : Launch} {Y : zM} {Q : zO → zH → Prop} {k n pc : Nat} {ls st : List zV} {h : zH} {a b ci : Nat} {i : Int} (d : decode (zMc Y) pc = .ok (.aastore, 1)) (hK : zK h a = 107) (hi0 : 0 ≤ i) (hi1 : i < zN h a) (hKb : zK h b = ci + 1) (hci : ci < 10) (w1 : (zCn ci, "java/lang/Object") ∈ zCa) (K : AW l Y Q k n (pc + 1) ls st (sq h a i (some b))) : AW l Y Q k n pc ls (zR (some b) :: zI i :: zR (some a) :: st) h := by
  intro p e s m args below meth c D dA ad0 h0 A C H locs ad lm hP hE hS hL o1 o2
  have hT := C.2.2.2.2.2.1
  obtain ⟨L, tys, q0, t0, h1, h2, h3, h4, h5, hq, ht0, hw⟩ := zP_row hP (t := 7) hK
  rw [zRw_q (by decide)] at hw
  obtain ⟨qk, hqk⟩ := List.getElem?_of_mem ((h2 b).mpr (by omega))
  obtain ⟨v1, v2, v3⟩ := zvin hP.1 hi0 hi1
  have hca : va_Nw (.castable (zCn ci) "java/lang/Object") s := C.2.2.2.2.2.2.2.2.2.2.2.1.2.2.1 _ w1
  refine va_astqO C.1 C.2.1 h1 h4 h5 hS q0 t0 qk ci (r := (zCn ci, zCt ci, zFn ci)) hw ht0 hca ((zW_at hqk).trans (by rw [zEn_o hKb hci])) (zCl_at ci hci) v1 d (fun H1 locs1 p1 p2 p3 => ?_)
  rw [zcl hi0 v3, show some (ad b) = (some b).map ad from rfl, ← zup_q hi0] at p1 p2
  have o9 : zok h (some b) := fun y hy => by cases hy; exact Or.inr (by omega)
  exact K p e s m args below meth c D dA ad0 h0 A C H1 locs1 ad lm (zP_stored (h := h) (h' := sq h a i (some b)) (zG_sq hP.1 o9) (fun _ => rfl) h1 h2 h3 h5 hq ((zEn_r (h := sq h a i (some b)) (t := 7) hK).trans (by rw [zRw_q (by decide)]; rfl)) (fun m hm => zEn_sq hm) p1 p2) (zE_st hE (fun _ => rfl)) p3 hL (zos_st (h := h) (h' := sq h a i (some b)) (fun _ => rfl) o1) (zos_st (h := h) (h' := sq h a i (some b)) (fun _ => rfl) (zo_tl (zo_tl (zo_tl o2))))
theorem zEn_saw {dA : Nat → ClassId} {ad : Nat → Nat} {h : zH} {n m : Nat} {g : Int → Int} (hm : m ≠ n) : zEn dA ad (saw h n g) m = zEn dA ad h m :=
  zEn_congr rfl rfl (fun _ => rfl) (fun j => if_neg hm) (fun _ => rfl) (fun _ => rfl) (fun _ => rfl) (fun _ => rfl) (fun _ => rfl)
theorem zEn_sqw {dA : Nat → ClassId} {ad : Nat → Nat} {h : zH} {n m : Nat} {g : Int → Option Nat} (hm : m ≠ n) : zEn dA ad (sqw h n g) m = zEn dA ad h m :=
  zEn_congr rfl rfl (fun _ => rfl) (fun _ => rfl) (fun _ => rfl) (fun j => by show (if m = n then g j else zq h m j).map ad = _; rw [if_neg hm]) (fun _ => rfl) (fun _ => rfl) (fun _ => rfl)
/-- what a copy leaves -/
def zcp {α : Type} (f g : Int → α) (sp dp n : Int) : Int → α := fun j => if dp ≤ j ∧ j < dp + n then f (sp + (j - dp)) else g j
theorem zG_saw {h : zH} {n : Nat} {g : Int → Int} (G : zG h) (h1 : ∀ j, zin (g j)) (h2 : zK h n = 101 → ∀ j, g j = 0 ∨ g j = 1) : zG (saw h n g) := by
  obtain ⟨g1, g2, g3, g4, g5, g6, g7, g8⟩ := G
  refine ⟨g1, fun m j => ?_, g3, g4, g5, g6, g7, fun m j hm => ?_⟩
  · show zin (if m = n then g j else za h m j)
    split
    · exact h1 j
    · exact g2 m j
  · show (if m = n then g j else za h m j) = 0 ∨ (if m = n then g j else za h m j) = 1
    split
    · rename_i e
      exact h2 (e ▸ hm) j
    · exact g8 m j hm
theorem zG_sqw {h : zH} {n : Nat} {g : Int → Option Nat} (G : zG h) (h1 : ∀ j, zok h (g j)) : zG (sqw h n g) := by
  obtain ⟨g1, g2, g3, g4, g5⟩ := G
  refine ⟨g1, g2, g3, fun m j => ?_, g5⟩
  show zok h (if m = n then g j else zq h m j)
  split
  · exact h1 j
  · exact g4 m j
theorem e_copyi {l : Launch} {Y : zM} {Q : zO → zH → Prop} {k n pc : Nat} {ls st : List zV} {h : zH} {idx a b : Nat} {sp dp c9 : Int} (d : decode (zMc Y) pc = .ok (.invokestatic idx, 3)) (w1 : Cond.methodLink (zMy Y).cls idx arraycopyName ∈ zT) (w2 : Cond.native arraycopyName ∈ zT) (w3 : Cond.static arraycopyName ∈ zT) (w4 : Cond.initialized "java/lang/System" ∈ zT) (hKa : zK h a = 100) (hKb : zK h b = 100) (h1 : 0 ≤ sp) (h2 : 0 ≤ dp) (h3 : 0 ≤ c9) (h4 : sp + c9 ≤ zN h a) (h5 : dp + c9 ≤ zN h b) (hst : st.length ≤ 4) (hf : 1 ≤ (zMr Y).frames) (hlo : 8 + (nativeFrameWords "java/lang/System" "arraycopy" 5 + 11) ≤ (zMr Y).locals) (K : AW l Y Q k n (pc + 3) ls st (saw h b (zcp (za h a) (za h b) sp dp c9))) : AW l Y Q k n pc ls (zI c9 :: zI dp :: zR (some b) :: zI sp :: zR (some a) :: st) h := by
  intro p e s m args below meth c D dA ad0 h0 A C H locs ad lm hP hE hS hL o1 o2
  have hT := C.2.2.2.2.2.1
  obtain ⟨La, ta, qa, t0, f1, f2, f3, f4, f5, fq, ft, fw⟩ := zP_row hP (t := 0) hKa
  obtain ⟨qb, hqb⟩ := List.getElem?_of_mem ((f2 b).mpr (by omega))
  have hwb := (zW_at (dA := dA) (ad := ad) (h := h) hqb).trans (by rw [zEn_r (t := 0) hKb])
  have hna := hP.1.2.2.2.2.1 a
  have hnb := hP.1.2.2.2.2.1 b
  have i1 : zin sp := ⟨by omega, by omega⟩
  have i2 : zin dp := ⟨by omega, by omega⟩
  have i3 : zin c9 := ⟨by omega, by omega⟩
  have hcat := zcat_rest (ad := ad) hst
  refine va_copyi C.1 C.2.1 (by rw [C.2.2.2.1]; exact hL.1.symm) C.2.2.2.2.1 (hT _ w1) (hT _ w2) (hT _ w3) (hT _ w4) f1 f4 f5 hS qa qb t0 t0 fw hwb ft ft rfl (fun y => ?_) (fun y => ?_) (fun y => ?_) ?_ ?_ (fun i _ => rfl) hf (Nat.le_trans (Nat.add_le_add_right hcat _) hlo) d (fun H1 locs1 p1 p2 p3 => ?_)
  · have := (zin_lt i1 zin_0).mp y
    omega
  · have := (zin_lt i2 zin_0).mp y
    omega
  · have := (zin_lt i3 zin_0).mp y
    omega
  · rw [zcl h1 i1, zcl h3 i3]
    omega
  · rw [zcl h2 i2, zcl h3 i3]
    omega
  · have e9 : va_cpy (fun j : Nat => Int32.ofInt (za h a (j : Int))) (fun j : Nat => Int32.ofInt (za h b (j : Int))) sp.toNat dp.toNat c9.toNat = (fun j : Nat => Int32.ofInt (za (saw h b (zcp (za h a) (za h b) sp dp c9)) b (j : Int))) := by
      funext j
      show _ = Int32.ofInt (if b = b then zcp (za h a) (za h b) sp dp c9 j else za h b j)
      rw [if_pos rfl]
      unfold va_cpy zcp
      by_cases e : dp ≤ (j : Int) ∧ (j : Int) < dp + c9
      · rw [if_pos e, if_pos ⟨by omega, by omega⟩]
        exact congrArg (fun z => Int32.ofInt (za h a z)) (by omega)
      · rw [if_neg e, if_neg (fun y => e ⟨by omega, by omega⟩)]
    rw [zcl h1 i1, zcl h2 i2, zcl h3 i3, e9] at p1 p2
    refine K p e s m args below meth c D dA ad0 h0 A C H1 locs1 ad lm (zP_stored (h := h) (h' := saw h b (zcp (za h a) (za h b) sp dp c9)) (zG_saw hP.1 (fun j => ?_) (fun y => by omega)) (fun _ => rfl) f1 f2 f3 f5 hqb (zEn_r (h := saw h b (zcp (za h a) (za h b) sp dp c9)) (t := 0) hKb) (fun m hm => zEn_saw hm) p1 p2) (zE_st hE (fun _ => rfl)) p3 hL (zos_st (h := h) (h' := saw h b (zcp (za h a) (za h b) sp dp c9)) (fun _ => rfl) o1) (zos_st (h := h) (h' := saw h b (zcp (za h a) (za h b) sp dp c9)) (fun _ => rfl) (zo_tl (zo_tl (zo_tl (zo_tl (zo_tl o2))))))
    unfold zcp
    split
    · exact hP.1.2.1 a _
    · exact hP.1.2.1 b _
end
section
/-! forgetting locals, cuts, nest mates' calls, wrapped sums -/
def zmask : List Bool → List zV → List zV
  | [], _ => []
  | _, [] => []
  | b :: bs, v :: vs => (if b then v else zX) :: zmask bs vs
theorem zmask_at : ∀ (bs : List Bool) (ls : List zV) (i : Nat) (v : zV), (zmask bs ls)[i]? = some v → v = zX ∨ ls[i]? = some v
  | [], _, i, v, h => by simp [zmask] at h
  | _ :: _, [], i, v, h => by simp [zmask] at h
  | b :: bs, w :: ws, 0, v, h => by
    simp only [zmask, List.getElem?_cons_zero] at h ⊢
    cases b
    · exact Or.inl (Option.some.inj h).symm
    · exact Or.inr h
  | b :: bs, w :: ws, i + 1, v, h => by
    simp only [zmask, List.getElem?_cons_succ] at h ⊢
    exact zmask_at bs ws i v h
theorem e_mask {l : Launch} {Y : zM} {Q : zO → zH → Prop} {k n pc : Nat} {ls st : List zV} {h : zH} (bs : List Bool) (K : AW l Y Q k n pc (zmask bs ls) st h) : AW l Y Q k n pc ls st h := by
  intro p e s m args below meth c D dA ad0 h0 A C H locs ad lm hP hE hS hL o1 o2
  refine K p e s m args below meth c D dA ad0 h0 A C H locs ad lm hP hE hS ⟨hL.1, hL.2.1, fun i v hi hv => ?_⟩ (fun v hv => ?_) o2
  · rcases zmask_at bs ls i v hi with y | y
    · exact absurd y hv
    · exact hL.2.2 i v y hv
  · obtain ⟨i, hi⟩ := List.getElem?_of_mem hv
    rcases zmask_at bs ls i v hi with y | y
    · rw [y]; trivial
    · exact o1 v (List.mem_of_getElem? y)
theorem e_cut {l : Launch} {Y : zM} {Q : zO → zH → Prop} {k n pc : Nat} {ls st : List zV} {h : zH} (pc' : Nat) (st' : List zV) (K1 : AW l Y Q k n pc' ls st' h) (K2 : AW l Y Q k n pc' ls st' h → AW l Y Q k n pc ls st h) : AW l Y Q k n pc ls st h := K2 K1
theorem e_wid {l : Launch} {Y : zM} {Q : zO → zH → Prop} {k n pc : Nat} {ls st : List zV} {h : zH} (k' n' : Nat) (h1 : k ≤ k') (h2 : n ≤ n') (K : AW l Y Q k' n' pc ls st h) : AW l Y Q k n pc ls st h := by
  intro p e s m args below meth c D dA ad0 h0 A C H locs ad lm hP hE hS hL o1 o2
  exact W.widen h1 h2 (K p e s m args below meth c D dA ad0 h0 A C H locs ad lm hP hE hS hL o1 o2)
/-- what is known of a heap in use -/
theorem e_G {l : Launch} {Y : zM} {Q : zO → zH → Prop} {k n pc : Nat} {ls st : List zV} {h : zH} (K : zG h → AW l Y Q k n pc ls st h) : AW l Y Q k n pc ls st h := by
  intro p e s m args below meth c D dA ad0 h0 A C H locs ad lm hP
  exact K hP.1 p e s m args below meth c D dA ad0 h0 A C H locs ad lm hP
/-- what the stack's first names stand for is in use -/
theorem e_ok {l : Launch} {Y : zM} {Q : zO → zH → Prop} {k n pc : Nat} {ls st : List zV} {h : zH} (K : (∀ v ∈ ls, zokv h v) → AW l Y Q k n pc ls st h) : AW l Y Q k n pc ls st h := by
  intro p e s m args below meth c D dA ad0 h0 A C H locs ad lm hP hE hS hL o1 o2
  exact K o1 p e s m args below meth c D dA ad0 h0 A C H locs ad lm hP hE hS hL o1 o2
theorem zwrap (z : Int) : ∃ w : Int, zin w ∧ Int32.ofInt w = Int32.ofInt z := ⟨(Int32.ofInt z).toInt, ⟨Int32.le_toInt _, Int32.toInt_lt _⟩, Int32.ofInt_toInt _⟩
theorem zc_wrap {ad : Nat → Nat} {w z : Int} (h : Int32.ofInt w = Int32.ofInt z) : zc ad (zI w) = zc ad (zI z) := congrArg Value.int h
/-- a whole number on the stack by another name -/
theorem e_wrap {l : Launch} {Y : zM} {Q : zO → zH → Prop} {k n pc : Nat} {ls st : List zV} {h : zH} {z : Int} (K : ∀ w, zin w → AW l Y Q k n pc ls (zI w :: st) h) : AW l Y Q k n pc ls (zI z :: st) h := by
  intro p e s m args below meth c D dA ad0 h0 A C H locs ad lm hP hE hS hL o1 o2
  obtain ⟨w, hw, he⟩ := zwrap z
  have K := K w hw p e s m args below meth c D dA ad0 h0 A C H locs ad lm hP hE hS hL o1 (zo_cons trivial (zo_tl o2))
  rw [List.map_cons, zc_wrap he] at K
  exact K
theorem zxMet {l : Launch} {y : MethodName} {ws : List Cond} {rm : Room} {Pc : Array Value → State → Prop} {Qc : Array Value → State → Outcome → State → Prop} {XC : String → State → State → Prop} {mc ms : Nat} {free : Addr → Prop} (h : vx_Met l y ws rm Pc Qc XC mc ms free) (hx : ∀ E st t, ¬ XC E st t) : Met l y ws rm Pc Qc mc ms free := by
  intro p e ha hc hk s m args below hf happ hP hK
  obtain ⟨t, o, a1, a2, a3, hq⟩ := h p e ha hc hk s m args below hf happ hP hK
  refine ⟨t, o, a1, a2, a3, ?_⟩
  rcases hq with hq | ⟨q, -, E, ce, L, hy, -⟩
  · exact hq
  · exact absurd hy (hx _ _ _)
/-- a call of the host's private static method -/
theorem e_callSN {l : Launch} {Y Yc : zM} {Q Qc : zO → zH → Prop} {k n pc : Nat} {ls st As rest : List zV} {h : zH} {idx : Nat} {host : String} (d : decode (zMc Y) pc = .ok (.invokestatic idx, 3)) (M : zMok Yc As.length) (V : Cond.static (zMy Yc) ∈ zT) (hl : ((zMy Y).cls, idx, zMy Yc, host) ∈ zNm) (hst : st = As.reverse ++ rest) (hr : rest.length ≤ 4) (hf : zFits Y Yc k n) (hc : zC l Yc As h Qc)
    (kx : ∀ E h1, ¬ Qc (.inr E) h1) (kk : ∀ v h1, Qc (.inl v) h1 → AW l Y Q (k + (zMr Yc).cells) (n + (zMr Yc).slots) (pc + 3) ls (v.toList ++ rest) h1) : AW l Y Q k n pc ls st h := by
  intro p e s m args below meth c D dA ad0 h0 A C H locs ad lm hP hE hS hL o1 o2
  subst hst
  have hT := C.2.2.2.2.2.1
  have oA : ∀ v ∈ As, zokv h v := fun v hv => o2 v (List.mem_append_left _ (List.mem_reverse.mpr hv))
  have oR : ∀ v ∈ rest, zokv h v := fun v hv => o2 v (List.mem_append_right _ hv)
  have hA := zA_sub (sz := H.size) hP (fun q hq => C.2.2.2.2.2.2.2.2.2.2.2.2.1 q (Nat.le_trans hS.1 hq))
  have hM := zxMet (hc D dA ad H.size) (fun E st t hx => by obtain ⟨⟨h', ad', hq, -⟩, -⟩ := hx; exact kx E h' hq)
  have hrun := va_runSN (As := As.map (zc ad)) (rest := rest.map (zc ad)) (nL := zMn Y) (meth := meth) (g := F0 m pc lm ((As.reverse ++ rest).map (zc ad))) (l := l) (e := e) (below := below) (H := H) (locs := locs) (cells := k) (slots := n) ⟨C.1, C.2.1, C.2.2.2.1, C.2.2.2.2.1, hT⟩ hM ⟨va_cnB As.length hT (zT_in (zWs_in M)) rfl rfl rfl (C.2.2.2.2.2.2.2.2.2.2.2.1.2.2.2.2.1 _ hl) (hT _ M.2.1) M.2.2 ⟨hf.1, hf.2.1⟩, hT _ V, trivial⟩ ⟨zB_blind, fun U hU hW => ⟨rfl, zB_for C hP hE hS oA hU hW⟩⟩ rfl (by rw [List.length_map]) hL.1 (by
    show List.map (zc ad) (As.reverse ++ rest) = _
    rw [List.map_append, List.map_reverse]) (lv_room (zcat_rest hr)) d ⟨hf.2.2.1, hf.2.2.2⟩
  refine z_goes (h := h) (ad := ad) (D := D) (dA := dA) (mc := (zMr Yc).cells) (ms := (zMr Yc).slots) (Qc := Qc) (a := (As.map (zc ad)).toArray) (rest := rest.map (zc ad)) (fun T hT X => Or.inl ?_) hS hA ?_ ?_
  · exact hrun T hT X
  · intro E h1 ad1 H1 locs1 q ce g1
    exact absurd g1 (kx E h1)
  · intro v h1 ad1 H1 locs1 g1 g2 g3 g4 g5
    have K := kk v h1 g1 p e s m args below meth c D dA ad0 h0 A C H1 locs1 ad1 lm g2 (zE_tr hE g3) g4 (zLO_E g3 o1 hL) (fun v hv => zokv_E g3 (o1 v hv)) (fun w hw => by
      rcases List.mem_append.mp hw with hw | hw
      · cases v with
        | none => cases hw
        | some x =>
          rw [show (some x).toList = [x] from rfl, List.mem_singleton] at hw
          rw [hw]
          exact g5 x rfl
      · exact zokv_E g3 (oR w hw))
    rw [List.map_append, zmap_E g3 oR] at K
    cases v with
    | none => exact K
    | some x => exact K
end
section
/-! the methods, their words, links, fields -/
abbrev MJxa1e45_init_da8c8 : zM := (yJxa1e45_init_da8c8, cJxa1e45_init_da8c8, 1, none, { frames := 1, cells := 0, slots := 0, locals := 12 }, [], none)
abbrev MJxc12de_init_da8c8 : zM := (yJxc12de_init_da8c8, cJxc12de_init_da8c8, 1, none, { frames := 2, cells := 0, slots := 0, locals := 50 }, [], none)
abbrev MJx4a65c_init_da8c8 : zM := (yJx4a65c_init_da8c8, cJx4a65c_init_da8c8, 1, none, { frames := 3, cells := 0, slots := 0, locals := 90 }, [], none)
abbrev MJ3_checkIndex_8e157 : zM := (yJ3_checkIndex_8e157, cJ3_checkIndex_8e157, 3, (some .int), { frames := 0, cells := 0, slots := 0, locals := 0 }, [], none)
abbrev MJ15_checkIndex_7cf53 : zM := (yJ15_checkIndex_7cf53, cJ15_checkIndex_7cf53, 2, (some .int), { frames := 1, cells := 0, slots := 0, locals := 40 }, [], none)
abbrev MJx4a65c_size_8abf5 : zM := (yJx4a65c_size_8abf5, cJx4a65c_size_8abf5, 1, (some .int), { frames := 0, cells := 0, slots := 0, locals := 0 }, [], none)
abbrev MJx4a65c_elementData_915e3 : zM := (yJx4a65c_elementData_915e3, cJx4a65c_elementData_915e3, 2, (some (.object "java/lang/Object")), { frames := 0, cells := 0, slots := 0, locals := 0 }, [], none)
abbrev MJx4a65c_get_915e3 : zM := (yJx4a65c_get_915e3, cJx4a65c_get_915e3, 2, (some (.object "java/lang/Object")), { frames := 2, cells := 0, slots := 0, locals := 80 }, [], none)
abbrev MJ8_newLength_cabcc : zM := (yJ8_newLength_cabcc, cJ8_newLength_cabcc, 4, (some .int), { frames := 1, cells := 0, slots := 0, locals := 30 }, [], none)
abbrev MJ7_copyOf_6403c : zM := (yJ7_copyOf_6403c, cJ7_copyOf_6403c, 4, (some (.array (.object "java/lang/Object"))), { frames := 1, cells := 1, slots := 40, locals := 60 }, [], none)
abbrev MJ7_copyOf_1904c : zM := (yJ7_copyOf_1904c, cJ7_copyOf_1904c, 2, (some (.array (.object "java/lang/Object"))), { frames := 2, cells := 1, slots := 40, locals := 100 }, [], none)
abbrev MJx4a65c_grow_92f84 : zM := (yJx4a65c_grow_92f84, cJx4a65c_grow_92f84, 4, (some (.array (.object "java/lang/Object"))), { frames := 3, cells := 1, slots := 40, locals := 140 }, [], none)
abbrev MJx4a65c_grow_d5877 : zM := (yJx4a65c_grow_d5877, cJx4a65c_grow_d5877, 1, (some (.array (.object "java/lang/Object"))), { frames := 4, cells := 1, slots := 40, locals := 180 }, [], none)
abbrev MJx4a65c_add_72be8 : zM := (yJx4a65c_add_72be8, cJx4a65c_add_72be8, 4, none, { frames := 5, cells := 1, slots := 40, locals := 220 }, [], none)
abbrev MJx4a65c_add_9ea2d : zM := (yJx4a65c_add_9ea2d, cJx4a65c_add_9ea2d, 2, (some .boolean), { frames := 6, cells := 1, slots := 40, locals := 260 }, [], none)
abbrev MJx4a65c_fastRemove_b59b0 : zM := (yJx4a65c_fastRemove_b59b0, cJx4a65c_fastRemove_b59b0, 4, none, { frames := 1, cells := 0, slots := 0, locals := 60 }, [], none)
abbrev MJx4a65c_remove_915e3 : zM := (yJx4a65c_remove_915e3, cJx4a65c_remove_915e3, 4, (some (.object "java/lang/Object")), { frames := 2, cells := 0, slots := 0, locals := 100 }, [], none)
abbrev MJx4a65c_clear_da8c8 : zM := (yJx4a65c_clear_da8c8, cJx4a65c_clear_da8c8, 4, none, { frames := 0, cells := 0, slots := 0, locals := 0 }, [], none)
abbrev MJ7_fill_53178 : zM := (yJ7_fill_53178, cJ7_fill_53178, 4, none, { frames := 0, cells := 0, slots := 0, locals := 0 }, [], none)
abbrev MJ0_isLatin1_aae02 : zM := (yJ0_isLatin1_aae02, cJ0_isLatin1_aae02, 1, (some .boolean), { frames := 0, cells := 0, slots := 0, locals := 0 }, [], none)
abbrev MJ0_checkIndex_df160 : zM := (yJ0_checkIndex_df160, cJ0_checkIndex_df160, 2, none, { frames := 1, cells := 0, slots := 0, locals := 40 }, [], none)
abbrev MJ1_charAt_3b067 : zM := (yJ1_charAt_3b067, cJ1_charAt_3b067, 2, (some .char), { frames := 2, cells := 0, slots := 0, locals := 80 }, [], none)
abbrev MJ0_charAt_5068e : zM := (yJ0_charAt_5068e, cJ0_charAt_5068e, 2, (some .char), { frames := 3, cells := 0, slots := 0, locals := 120 }, [], none)
abbrev ML_behind : zM := (yL_behind, cL_behind, 3, (some .int), { frames := 8, cells := 1, slots := 6, locals := 132 }, [(0, 5, 6, 26)], none)
abbrev ML_bid : zM := (yL_bid, cL_bid, 4, (some .int), { frames := 8, cells := 2, slots := 12, locals := 135 }, [(0, 6, 7, 26), (0, 6, 11, 29)], none)
abbrev ML_cell : zM := (yL_cell, cL_cell, 2, (some .int), { frames := 0, cells := 0, slots := 0, locals := 0 }, [], none)
abbrev ML_copy : zM := (yL_copy, cL_copy, 5, (some .int), { frames := 8, cells := 2, slots := 12, locals := 136 }, [(0, 7, 8, 26), (0, 7, 13, 29)], none)
abbrev ML_draw : zM := (yL_draw, cL_draw, 9, (some .int), { frames := 8, cells := 4, slots := 24, locals := 202 }, [(0, 15, 16, 26), (0, 15, 21, 29)], none)
abbrev ML_guesses : zM := (yL_guesses, cL_guesses, 3, (some .int), { frames := 8, cells := 1, slots := 6, locals := 146 }, [(0, 5, 6, 26)], none)
abbrev ML_host : zM := (yL_host, cL_host, 3, (some .int), { frames := 8, cells := 1, slots := 6, locals := 132 }, [(0, 5, 6, 26)], none)
abbrev ML_is : zM := (yL_is, cL_is, 7, (some .int), { frames := 8, cells := 17, slots := 136, locals := 306 }, [(0, 122, 123, 26), (0, 122, 128, 29), (0, 122, 133, 19)], none)
abbrev ML_join : zM := (yL_join, cL_join, 4, (some .int), { frames := 8, cells := 8, slots := 237, locals := 135 }, [(0, 6, 7, 26), (0, 6, 11, 29), (0, 6, 15, 19)], none)
abbrev ML_left : zM := (yL_left, cL_left, 3, (some .int), { frames := 8, cells := 2, slots := 12, locals := 133 }, [(0, 5, 6, 26), (0, 5, 10, 19)], none)
abbrev ML_money : zM := (yL_money, cL_money, 3, (some .int), { frames := 8, cells := 1, slots := 6, locals := 132 }, [(0, 5, 6, 26)], none)
abbrev ML_moveWindow : zM := (yL_moveWindow, cL_moveWindow, 6, (some .int), { frames := 8, cells := 4, slots := 24, locals := 198 }, [(0, 9, 10, 26), (0, 9, 15, 29)], none)
abbrev ML_next : zM := (yL_next, cL_next, 3, (some .int), { frames := 9, cells := 2, slots := 12, locals := 154 }, [(0, 5, 6, 26), (0, 5, 10, 68)], none)
abbrev ML_nextCost : zM := (yL_nextCost, cL_nextCost, 3, (some .int), { frames := 9, cells := 2, slots := 12, locals := 154 }, [(0, 5, 6, 26), (0, 5, 10, 68)], none)
abbrev ML_noted : zM := (yL_noted, cL_noted, 3, (some .int), { frames := 8, cells := 2, slots := 12, locals := 133 }, [(0, 5, 6, 26), (0, 5, 10, 68)], none)
abbrev ML_openSession : zM := (yL_openSession, cL_openSession, 2, (some .int), { frames := 7, cells := 10, slots := 242, locals := 151 }, [(0, 4, 5, 19)], none)
abbrev ML_openWindow : zM := (yL_openWindow, cL_openWindow, 7, (some .int), { frames := 9, cells := 6, slots := 164, locals := 329 }, [(0, 11, 12, 26), (0, 11, 17, 29), (0, 11, 22, 19)], none)
abbrev ML_paste : zM := (yL_paste, cL_paste, 4, (some .int), { frames := 8, cells := 5, slots := 30, locals := 135 }, [(0, 6, 7, 26), (0, 6, 11, 68), (0, 6, 15, 81)], none)
abbrev ML_picture : zM := (yL_picture, cL_picture, 5, (some .int), { frames := 8, cells := 2, slots := 12, locals := 135 }, [(0, 7, 8, 26)], none)
abbrev ML_played : zM := (yL_played, cL_played, 6, (some .int), { frames := 8, cells := 3, slots := 18, locals := 137 }, [(0, 9, 10, 26), (0, 9, 15, 68)], none)
abbrev ML_record : zM := (yL_record, cL_record, 3, (some .int), { frames := 8, cells := 7, slots := 11813, locals := 134 }, [(0, 5, 6, 26)], none)
abbrev ML_screen : zM := (yL_screen, cL_screen, 5, (some .int), { frames := 8, cells := 2, slots := 12, locals := 135 }, [(0, 7, 8, 26)], none)
abbrev ML_seen : zM := (yL_seen, cL_seen, 5, (some .int), { frames := 8, cells := 2, slots := 12, locals := 151 }, [(0, 7, 8, 26)], none)
abbrev ML_some : zM := (yL_some, cL_some, 3, (some .int), { frames := 1, cells := 0, slots := 0, locals := 21 }, [], none)
abbrev ML_tick : zM := (yL_tick, cL_tick, 3, (some .int), { frames := 9, cells := 1, slots := 6, locals := 242 }, [(0, 5, 6, 29)], none)
abbrev ML_told : zM := (yL_told, cL_told, 7, (some .boolean), { frames := 10, cells := 779, slots := 5826, locals := 176 }, [], none)
abbrev ML_type : zM := (yL_type, cL_type, 4, (some .int), { frames := 8, cells := 6, slots := 68, locals := 307 }, [(0, 6, 7, 26), (0, 6, 11, 29), (0, 6, 15, 81), (0, 6, 19, 19)], none)
abbrev MX0_apply : zM := (yX0_apply, cX0_apply, 4, none, { frames := 1, cells := 0, slots := 0, locals := 60 }, [], none)
abbrev MX0_colourAfter : zM := (yX0_colourAfter, cX0_colourAfter, 2, (some .int), { frames := 0, cells := 0, slots := 0, locals := 0 }, [], none)
abbrev MX0_consider : zM := (yX0_consider, cX0_consider, 7, none, { frames := 0, cells := 0, slots := 0, locals := 0 }, [], none)
abbrev MX0_find : zM := (yX0_find, cX0_find, 1, none, { frames := 3, cells := 0, slots := 0, locals := 80 }, [], none)
abbrev MX0_gainOf : zM := (yX0_gainOf, cX0_gainOf, 5, (some .int), { frames := 0, cells := 0, slots := 0, locals := 0 }, [], none)
abbrev MX0_init : zM := (yX0_init, cX0_init, 2, none, { frames := 1, cells := 3, slots := 201, locals := 12 }, [], none)
abbrev MX0_isBehind : zM := (yX0_isBehind, cX0_isBehind, 2, (some .boolean), { frames := 0, cells := 0, slots := 0, locals := 0 }, [], none)
abbrev MX0_tryCells : zM := (yX0_tryCells, cX0_tryCells, 3, none, { frames := 1, cells := 0, slots := 0, locals := 26 }, [], none)
abbrev MX0_tryCopies : zM := (yX0_tryCopies, cX0_tryCopies, 3, none, { frames := 2, cells := 0, slots := 0, locals := 58 }, [], none)
abbrev MX0_tryRectangles : zM := (yX0_tryRectangles, cX0_tryRectangles, 13, none, { frames := 1, cells := 0, slots := 0, locals := 26 }, [], none)
abbrev MX1_countBehind : zM := (yX1_countBehind, cX1_countBehind, 3, (some .int), { frames := 1, cells := 0, slots := 0, locals := 21 }, [], none)
abbrev MX1_endGuess : zM := (yX1_endGuess, cX1_endGuess, 2, none, { frames := 0, cells := 0, slots := 0, locals := 0 }, [], none)
abbrev MX1_init : zM := (yX1_init, cX1_init, 3, none, { frames := 2, cells := 4, slots := 212, locals := 33 }, [], none)
abbrev MX2_hold : zM := (yX2_hold, cX2_hold, 4, none, { frames := 0, cells := 0, slots := 0, locals := 0 }, [], none)
abbrev MX2_init : zM := (yX2_init, cX2_init, 1, none, { frames := 1, cells := 0, slots := 0, locals := 12 }, [], none)
abbrev MX3_init : zM := (yX3_init, cX3_init, 5, none, { frames := 1, cells := 0, slots := 0, locals := 12 }, [], none)
abbrev MX4_begin : zM := (yX4_begin, cX4_begin, 1, none, { frames := 1, cells := 0, slots := 0, locals := 23 }, [], none)
abbrev MX4_endTick : zM := (yX4_endTick, cX4_endTick, 1, none, { frames := 0, cells := 0, slots := 0, locals := 0 }, [], none)
abbrev MX4_init : zM := (yX4_init, cX4_init, 1, none, { frames := 1, cells := 5, slots := 11800, locals := 12 }, [], none)
abbrev MX4_isAsLookedAt : zM := (yX4_isAsLookedAt, cX4_isAsLookedAt, 2, (some .boolean), { frames := 2, cells := 0, slots := 0, locals := 46 }, [], none)
abbrev MX4_isFull : zM := (yX4_isFull, cX4_isFull, 1, (some .boolean), { frames := 0, cells := 0, slots := 0, locals := 0 }, [], none)
abbrev MX4_look : zM := (yX4_look, cX4_look, 3, none, { frames := 0, cells := 0, slots := 0, locals := 0 }, [], none)
abbrev MX4_play : zM := (yX4_play, cX4_play, 4, none, { frames := 1, cells := 0, slots := 0, locals := 23 }, [], none)
abbrev MX5_addWindow : zM := (yX5_addWindow, cX5_addWindow, 3, (some .int), { frames := 7, cells := 1, slots := 40, locals := 281 }, [], none)
abbrev MX5_advanceMove : zM := (yX5_advanceMove, cX5_advanceMove, 1, none, { frames := 3, cells := 0, slots := 0, locals := 82 }, [], none)
abbrev MX5_colourOfWindows : zM := (yX5_colourOfWindows, cX5_colourOfWindows, 5, (some .int), { frames := 4, cells := 0, slots := 0, locals := 125 }, [], none)
abbrev MX5_countKeysBy : zM := (yX5_countKeysBy, cX5_countKeysBy, 4, (some .int), { frames := 3, cells := 0, slots := 0, locals := 101 }, [], none)
abbrev MX5_countKeysOf : zM := (yX5_countKeysOf, cX5_countKeysOf, 4, (some .int), { frames := 3, cells := 0, slots := 0, locals := 101 }, [], none)
abbrev MX5_doKeys : zM := (yX5_doKeys, cX5_doKeys, 3, none, { frames := 6, cells := 0, slots := 0, locals := 172 }, [], none)
abbrev MX5_init : zM := (yX5_init, cX5_init, 1, none, { frames := 4, cells := 8, slots := 227, locals := 110 }, [], none)
abbrev MX5_isOnTop : zM := (yX5_isOnTop, cX5_isOnTop, 3, (some .boolean), { frames := 3, cells := 0, slots := 0, locals := 101 }, [], none)
abbrev MX5_isPainted : zM := (yX5_isPainted, cX5_isPainted, 2, (some .boolean), { frames := 5, cells := 0, slots := 0, locals := 149 }, [], none)
abbrev MX5_isRight : zM := (yX5_isRight, cX5_isRight, 3, (some .boolean), { frames := 3, cells := 0, slots := 0, locals := 66 }, [], none)
abbrev MX5_isTrue : zM := (yX5_isTrue, cX5_isTrue, 1, (some .boolean), { frames := 6, cells := 0, slots := 0, locals := 170 }, [], none)
abbrev MX5_lastGuessAt : zM := (yX5_lastGuessAt, cX5_lastGuessAt, 5, (some (.object "Remotepane$Key")), { frames := 3, cells := 0, slots := 0, locals := 101 }, [], none)
abbrev MX5_lookForRecording : zM := (yX5_lookForRecording, cX5_lookForRecording, 4, none, { frames := 4, cells := 0, slots := 0, locals := 125 }, [], none)
abbrev MX5_repaint : zM := (yX5_repaint, cX5_repaint, 4, (some .int), { frames := 5, cells := 0, slots := 0, locals := 149 }, [], none)
abbrev MX5_takeFromPile : zM := (yX5_takeFromPile, cX5_takeFromPile, 3, none, { frames := 3, cells := 0, slots := 0, locals := 123 }, [], none)
abbrev MX5_topShown : zM := (yX5_topShown, cX5_topShown, 3, (some (.object "Remotepane$Window")), { frames := 3, cells := 0, slots := 0, locals := 101 }, [], none)
abbrev MX5_topShownAt : zM := (yX5_topShownAt, cX5_topShownAt, 5, (some (.object "Remotepane$Window")), { frames := 3, cells := 0, slots := 0, locals := 101 }, [], none)
abbrev MX6_advance : zM := (yX6_advance, cX6_advance, 3, (some .boolean), { frames := 2, cells := 0, slots := 0, locals := 60 }, [], none)
abbrev MX6_begin : zM := (yX6_begin, cX6_begin, 2, none, { frames := 0, cells := 0, slots := 0, locals := 0 }, [], none)
abbrev MX6_countRowsLeft : zM := (yX6_countRowsLeft, cX6_countRowsLeft, 4, (some .int), { frames := 1, cells := 0, slots := 0, locals := 23 }, [], none)
abbrev MX6_init : zM := (yX6_init, cX6_init, 1, none, { frames := 1, cells := 2, slots := 104, locals := 12 }, [], none)
abbrev MX6_isOther : zM := (yX6_isOther, cX6_isOther, 4, (some .boolean), { frames := 0, cells := 0, slots := 0, locals := 0 }, [], none)
abbrev MX6_nextRow : zM := (yX6_nextRow, cX6_nextRow, 3, (some .int), { frames := 1, cells := 0, slots := 0, locals := 23 }, [], none)
abbrev MX7_cellAhead : zM := (yX7_cellAhead, cX7_cellAhead, 2, (some .int), { frames := 0, cells := 0, slots := 0, locals := 0 }, [], none)
abbrev MX7_colourAt : zM := (yX7_colourAt, cX7_colourAt, 3, (some .int), { frames := 0, cells := 0, slots := 0, locals := 0 }, [], none)
abbrev MX7_covers : zM := (yX7_covers, cX7_covers, 3, (some .boolean), { frames := 0, cells := 0, slots := 0, locals := 0 }, [], none)
abbrev MX7_fillPart : zM := (yX7_fillPart, cX7_fillPart, 12, (some .int), { frames := 1, cells := 0, slots := 0, locals := 21 }, [], none)
abbrev MX7_init : zM := (yX7_init, cX7_init, 5, none, { frames := 1, cells := 1, slots := 96, locals := 12 }, [], none)
abbrev MX7_placeOf : zM := (yX7_placeOf, cX7_placeOf, 4, (some .int), { frames := 2, cells := 0, slots := 0, locals := 43 }, [], none)
abbrev MX7_put : zM := (yX7_put, cX7_put, 2, none, { frames := 1, cells := 0, slots := 0, locals := 21 }, [], none)
abbrev MX8_allow : zM := (yX8_allow, cX8_allow, 7, (some .boolean), { frames := 6, cells := 2, slots := 12, locals := 90 }, [], none)
abbrev MX8_behind : zM := (yX8_behind, cX8_behind, 2, (some .int), { frames := 7, cells := 1, slots := 6, locals := 111 }, [], none)
abbrev MX8_bid : zM := (yX8_bid, cX8_bid, 5, (some .int), { frames := 7, cells := 2, slots := 12, locals := 111 }, [], none)
abbrev MX8_canPass : zM := (yX8_canPass, cX8_canPass, 5, (some .boolean), { frames := 1, cells := 0, slots := 0, locals := 22 }, [], none)
abbrev MX8_carried : zM := (yX8_carried, cX8_carried, 1, (some .long), { frames := 0, cells := 0, slots := 0, locals := 0 }, [], none)
abbrev MX8_clientAt : zM := (yX8_clientAt, cX8_clientAt, 2, (some (.object "Remotepane$Client")), { frames := 6, cells := 1, slots := 6, locals := 90 }, [], none)
abbrev MX8_closeWindow : zM := (yX8_closeWindow, cX8_closeWindow, 5, (some .boolean), { frames := 7, cells := 3, slots := 18, locals := 172 }, [], none)
abbrev MX8_copy : zM := (yX8_copy, cX8_copy, 6, (some .int), { frames := 7, cells := 2, slots := 12, locals := 111 }, [], none)
abbrev MX8_draw : zM := (yX8_draw, cX8_draw, 11, (some .int), { frames := 7, cells := 4, slots := 24, locals := 172 }, [], none)
abbrev MX8_guesses : zM := (yX8_guesses, cX8_guesses, 3, (some .int), { frames := 7, cells := 1, slots := 6, locals := 124 }, [], none)
abbrev MX8_host : zM := (yX8_host, cX8_host, 2, (some .int), { frames := 7, cells := 1, slots := 6, locals := 111 }, [], none)
abbrev MX8_init : zM := (yX8_init, cX8_init, 1, none, { frames := 1, cells := 3, slots := 58, locals := 12 }, [], none)
abbrev MX8_isConsistent : zM := (yX8_isConsistent, cX8_isConsistent, 5, (some .boolean), { frames := 7, cells := 0, slots := 0, locals := 190 }, [], none)
abbrev MX8_isScreenCell : zM := (yX8_isScreenCell, cX8_isScreenCell, 2, (some .boolean), { frames := 1, cells := 0, slots := 0, locals := 22 }, [], none)
abbrev MX8_isSession : zM := (yX8_isSession, cX8_isSession, 2, (some .boolean), { frames := 1, cells := 0, slots := 0, locals := 22 }, [], none)
abbrev MX8_isSize : zM := (yX8_isSize, cX8_isSize, 2, (some .boolean), { frames := 1, cells := 0, slots := 0, locals := 22 }, [], none)
abbrev MX8_isWindowPlace : zM := (yX8_isWindowPlace, cX8_isWindowPlace, 2, (some .boolean), { frames := 1, cells := 0, slots := 0, locals := 22 }, [], none)
abbrev MX8_isWithin : zM := (yX8_isWithin, cX8_isWithin, 3, (some .boolean), { frames := 0, cells := 0, slots := 0, locals := 0 }, [], none)
abbrev MX8_join : zM := (yX8_join, cX8_join, 5, (some .int), { frames := 7, cells := 8, slots := 237, locals := 111 }, [], none)
abbrev MX8_left : zM := (yX8_left, cX8_left, 3, (some .int), { frames := 7, cells := 2, slots := 12, locals := 111 }, [], none)
abbrev MX8_mark : zM := (yX8_mark, cX8_mark, 7, (some .boolean), { frames := 7, cells := 3, slots := 18, locals := 112 }, [], none)
abbrev MX8_money : zM := (yX8_money, cX8_money, 2, (some .int), { frames := 7, cells := 1, slots := 6, locals := 111 }, [], none)
abbrev MX8_move : zM := (yX8_move, cX8_move, 3, (some .boolean), { frames := 7, cells := 2, slots := 12, locals := 111 }, [], none)
abbrev MX8_moveWindow : zM := (yX8_moveWindow, cX8_moveWindow, 7, (some .int), { frames := 7, cells := 4, slots := 24, locals := 172 }, [], none)
abbrev MX8_next : zM := (yX8_next, cX8_next, 2, (some .char), { frames := 8, cells := 2, slots := 12, locals := 133 }, [], none)
abbrev MX8_nextChange : zM := (yX8_nextChange, cX8_nextChange, 3, (some (.object "Remotepane$Change")), { frames := 7, cells := 2, slots := 12, locals := 111 }, [], none)
abbrev MX8_nextCost : zM := (yX8_nextCost, cX8_nextCost, 2, (some .int), { frames := 8, cells := 2, slots := 12, locals := 133 }, [], none)
abbrev MX8_noted : zM := (yX8_noted, cX8_noted, 3, (some .int), { frames := 7, cells := 2, slots := 12, locals := 111 }, [], none)
abbrev MX8_openSession : zM := (yX8_openSession, cX8_openSession, 2, (some .int), { frames := 6, cells := 10, slots := 242, locals := 130 }, [], none)
abbrev MX8_openWindow : zM := (yX8_openWindow, cX8_openWindow, 7, (some .int), { frames := 8, cells := 6, slots := 164, locals := 303 }, [], none)
abbrev MX8_passTick : zM := (yX8_passTick, cX8_passTick, 6, (some .int), { frames := 7, cells := 0, slots := 0, locals := 194 }, [], none)
abbrev MX8_paste : zM := (yX8_paste, cX8_paste, 5, (some .int), { frames := 7, cells := 5, slots := 30, locals := 111 }, [], none)
abbrev MX8_picture : zM := (yX8_picture, cX8_picture, 5, (some .int), { frames := 7, cells := 2, slots := 12, locals := 111 }, [], none)
abbrev MX8_played : zM := (yX8_played, cX8_played, 7, (some .int), { frames := 7, cells := 3, slots := 18, locals := 111 }, [], none)
abbrev MX8_raise : zM := (yX8_raise, cX8_raise, 6, (some .boolean), { frames := 7, cells := 4, slots := 58, locals := 281 }, [], none)
abbrev MX8_record : zM := (yX8_record, cX8_record, 4, (some .int), { frames := 7, cells := 7, slots := 11813, locals := 111 }, [], none)
abbrev MX8_richestServed : zM := (yX8_richestServed, cX8_richestServed, 7, (some (.object "Remotepane$Client")), { frames := 0, cells := 0, slots := 0, locals := 0 }, [], none)
abbrev MX8_rightNumber : zM := (yX8_rightNumber, cX8_rightNumber, 3, (some .int), { frames := 0, cells := 0, slots := 0, locals := 0 }, [], none)
abbrev MX8_runLine : zM := (yX8_runLine, cX8_runLine, 5, (some .int), { frames := 4, cells := 0, slots := 0, locals := 100 }, [], none)
abbrev MX8_screen : zM := (yX8_screen, cX8_screen, 5, (some .int), { frames := 7, cells := 2, slots := 12, locals := 111 }, [], none)
abbrev MX8_screenCell : zM := (yX8_screenCell, cX8_screenCell, 2, (some .int), { frames := 6, cells := 1, slots := 6, locals := 90 }, [], none)
abbrev MX8_seen : zM := (yX8_seen, cX8_seen, 7, (some .int), { frames := 7, cells := 2, slots := 12, locals := 125 }, [], none)
abbrev MX8_sessionAt : zM := (yX8_sessionAt, cX8_sessionAt, 2, (some (.object "Remotepane$Session")), { frames := 6, cells := 1, slots := 6, locals := 90 }, [], none)
abbrev MX8_show : zM := (yX8_show, cX8_show, 7, (some .boolean), { frames := 7, cells := 3, slots := 18, locals := 172 }, [], none)
abbrev MX8_tick : zM := (yX8_tick, cX8_tick, 4, (some .int), { frames := 8, cells := 1, slots := 6, locals := 219 }, [], none)
abbrev MX8_type : zM := (yX8_type, cX8_type, 7, (some .int), { frames := 7, cells := 6, slots := 68, locals := 281 }, [], none)
abbrev MX8_windowAt : zM := (yX8_windowAt, cX8_windowAt, 3, (some (.object "Remotepane$Window")), { frames := 6, cells := 2, slots := 12, locals := 90 }, [], none)
theorem zTi {w : Cond} (i : Nat) (h : tables_1[i]? = some w) (h2 : goodWord w = true) : w ∈ zT := zTm (List.mem_append_right _ (List.mem_of_getElem? h)) h2
theorem moJxa1e45_init_da8c8 : zMok MJxa1e45_init_da8c8 0 := ⟨zTi 153 (by decide +kernel) rfl, zTi 3 (by decide +kernel) rfl, by decide, by decide, by decide +kernel⟩
theorem miJxa1e45_init_da8c8 : Cond.instanceMethod yJxa1e45_init_da8c8 ∈ zT := zTi 152 (by decide +kernel) rfl
theorem moJxc12de_init_da8c8 : zMok MJxc12de_init_da8c8 0 := ⟨zTi 150 (by decide +kernel) rfl, zTi 4 (by decide +kernel) rfl, by decide, by decide, by decide +kernel⟩
theorem miJxc12de_init_da8c8 : Cond.instanceMethod yJxc12de_init_da8c8 ∈ zT := zTi 149 (by decide +kernel) rfl
theorem moJx4a65c_init_da8c8 : zMok MJx4a65c_init_da8c8 0 := ⟨zTi 147 (by decide +kernel) rfl, zTi 5 (by decide +kernel) rfl, by decide, by decide, by decide +kernel⟩
theorem miJx4a65c_init_da8c8 : Cond.instanceMethod yJx4a65c_init_da8c8 ∈ zT := zTi 146 (by decide +kernel) rfl
theorem moJ3_checkIndex_8e157 : zMok MJ3_checkIndex_8e157 3 := ⟨zTi 94 (by decide +kernel) rfl, zTi 24 (by decide +kernel) rfl, by decide, by decide, by decide +kernel⟩
theorem msJ3_checkIndex_8e157 : Cond.static yJ3_checkIndex_8e157 ∈ zT := zTi 93 (by decide +kernel) rfl
theorem moJ15_checkIndex_7cf53 : zMok MJ15_checkIndex_7cf53 2 := ⟨zTi 91 (by decide +kernel) rfl, zTi 23 (by decide +kernel) rfl, by decide, by decide, by decide +kernel⟩
theorem msJ15_checkIndex_7cf53 : Cond.static yJ15_checkIndex_7cf53 ∈ zT := zTi 90 (by decide +kernel) rfl
theorem moJx4a65c_size_8abf5 : zMok MJx4a65c_size_8abf5 0 := ⟨zTi 84 (by decide +kernel) rfl, zTi 5 (by decide +kernel) rfl, by decide, by decide, by decide +kernel⟩
theorem mvJx4a65c_size_8abf5 : zVok MJx4a65c_size_8abf5 := ⟨zTi 82 (by decide +kernel) rfl, zTi 83 (by decide +kernel) rfl⟩
theorem moJx4a65c_elementData_915e3 : zMok MJx4a65c_elementData_915e3 1 := ⟨zTi 98 (by decide +kernel) rfl, zTi 5 (by decide +kernel) rfl, by decide, by decide, by decide +kernel⟩
theorem mvJx4a65c_elementData_915e3 : zVok MJx4a65c_elementData_915e3 := ⟨zTi 96 (by decide +kernel) rfl, zTi 97 (by decide +kernel) rfl⟩
theorem moJx4a65c_get_915e3 : zMok MJx4a65c_get_915e3 1 := ⟨zTi 88 (by decide +kernel) rfl, zTi 5 (by decide +kernel) rfl, by decide, by decide, by decide +kernel⟩
theorem mvJx4a65c_get_915e3 : zVok MJx4a65c_get_915e3 := ⟨zTi 86 (by decide +kernel) rfl, zTi 87 (by decide +kernel) rfl⟩
theorem moJ8_newLength_cabcc : zMok MJ8_newLength_cabcc 3 := ⟨zTi 463 (by decide +kernel) rfl, zTi 19 (by decide +kernel) rfl, by decide, by decide, by decide +kernel⟩
theorem msJ8_newLength_cabcc : Cond.static yJ8_newLength_cabcc ∈ zT := zTi 462 (by decide +kernel) rfl
theorem moJ7_copyOf_6403c : zMok MJ7_copyOf_6403c 3 := ⟨zTi 496 (by decide +kernel) rfl, zTi 21 (by decide +kernel) rfl, by decide, by decide, by decide +kernel⟩
theorem msJ7_copyOf_6403c : Cond.static yJ7_copyOf_6403c ∈ zT := zTi 495 (by decide +kernel) rfl
theorem moJ7_copyOf_1904c : zMok MJ7_copyOf_1904c 2 := ⟨zTi 473 (by decide +kernel) rfl, zTi 21 (by decide +kernel) rfl, by decide, by decide, by decide +kernel⟩
theorem msJ7_copyOf_1904c : Cond.static yJ7_copyOf_1904c ∈ zT := zTi 472 (by decide +kernel) rfl
theorem moJx4a65c_grow_92f84 : zMok MJx4a65c_grow_92f84 1 := ⟨zTi 460 (by decide +kernel) rfl, zTi 5 (by decide +kernel) rfl, by decide, by decide, by decide +kernel⟩
theorem mvJx4a65c_grow_92f84 : zVok MJx4a65c_grow_92f84 := ⟨zTi 459 (by decide +kernel) rfl, zTm (by decide +kernel) rfl⟩
theorem moJx4a65c_grow_d5877 : zMok MJx4a65c_grow_d5877 0 := ⟨zTi 456 (by decide +kernel) rfl, zTi 5 (by decide +kernel) rfl, by decide, by decide, by decide +kernel⟩
theorem mvJx4a65c_grow_d5877 : zVok MJx4a65c_grow_d5877 := ⟨zTi 455 (by decide +kernel) rfl, zTm (by decide +kernel) rfl⟩
theorem moJx4a65c_add_72be8 : zMok MJx4a65c_add_72be8 3 := ⟨zTi 452 (by decide +kernel) rfl, zTi 5 (by decide +kernel) rfl, by decide, by decide, by decide +kernel⟩
theorem mvJx4a65c_add_72be8 : zVok MJx4a65c_add_72be8 := ⟨zTi 451 (by decide +kernel) rfl, zTm (by decide +kernel) rfl⟩
theorem moJx4a65c_add_9ea2d : zMok MJx4a65c_add_9ea2d 1 := ⟨zTi 448 (by decide +kernel) rfl, zTi 5 (by decide +kernel) rfl, by decide, by decide, by decide +kernel⟩
theorem mvJx4a65c_add_9ea2d : zVok MJx4a65c_add_9ea2d := ⟨zTi 446 (by decide +kernel) rfl, zTi 447 (by decide +kernel) rfl⟩
theorem moJx4a65c_fastRemove_b59b0 : zMok MJx4a65c_fastRemove_b59b0 2 := ⟨zTi 1025 (by decide +kernel) rfl, zTi 5 (by decide +kernel) rfl, by decide, by decide, by decide +kernel⟩
theorem mvJx4a65c_fastRemove_b59b0 : zVok MJx4a65c_fastRemove_b59b0 := ⟨zTi 1024 (by decide +kernel) rfl, zTm (by decide +kernel) rfl⟩
theorem moJx4a65c_remove_915e3 : zMok MJx4a65c_remove_915e3 1 := ⟨zTi 1021 (by decide +kernel) rfl, zTi 5 (by decide +kernel) rfl, by decide, by decide, by decide +kernel⟩
theorem mvJx4a65c_remove_915e3 : zVok MJx4a65c_remove_915e3 := ⟨zTi 1019 (by decide +kernel) rfl, zTi 1020 (by decide +kernel) rfl⟩
theorem moJx4a65c_clear_da8c8 : zMok MJx4a65c_clear_da8c8 0 := ⟨zTi 797 (by decide +kernel) rfl, zTi 5 (by decide +kernel) rfl, by decide, by decide, by decide +kernel⟩
theorem mvJx4a65c_clear_da8c8 : zVok MJx4a65c_clear_da8c8 := ⟨zTi 795 (by decide +kernel) rfl, zTi 796 (by decide +kernel) rfl⟩
theorem moJ7_fill_53178 : zMok MJ7_fill_53178 2 := ⟨zTi 118 (by decide +kernel) rfl, zTi 21 (by decide +kernel) rfl, by decide, by decide, by decide +kernel⟩
theorem msJ7_fill_53178 : Cond.static yJ7_fill_53178 ∈ zT := zTi 117 (by decide +kernel) rfl
theorem moJ0_isLatin1_aae02 : zMok MJ0_isLatin1_aae02 0 := ⟨zTi 1086 (by decide +kernel) rfl, zTi 14 (by decide +kernel) rfl, by decide, by decide, by decide +kernel⟩
theorem mvJ0_isLatin1_aae02 : zVok MJ0_isLatin1_aae02 := ⟨zTi 1084 (by decide +kernel) rfl, zTi 1085 (by decide +kernel) rfl⟩
theorem moJ0_checkIndex_df160 : zMok MJ0_checkIndex_df160 2 := ⟨zTi 1094 (by decide +kernel) rfl, zTi 14 (by decide +kernel) rfl, by decide, by decide, by decide +kernel⟩
theorem msJ0_checkIndex_df160 : Cond.static yJ0_checkIndex_df160 ∈ zT := zTi 1093 (by decide +kernel) rfl
theorem moJ1_charAt_3b067 : zMok MJ1_charAt_3b067 2 := ⟨zTi 1091 (by decide +kernel) rfl, zTi 25 (by decide +kernel) rfl, by decide, by decide, by decide +kernel⟩
theorem msJ1_charAt_3b067 : Cond.static yJ1_charAt_3b067 ∈ zT := zTi 1090 (by decide +kernel) rfl
theorem moJ0_charAt_5068e : zMok MJ0_charAt_5068e 1 := ⟨zTi 1082 (by decide +kernel) rfl, zTi 14 (by decide +kernel) rfl, by decide, by decide, by decide +kernel⟩
theorem mvJ0_charAt_5068e : zVok MJ0_charAt_5068e := ⟨zTi 1080 (by decide +kernel) rfl, zTi 1081 (by decide +kernel) rfl⟩
theorem mwL_behind : Cond.codeWith yL_behind cL_behind 3 (some .int) [(0, 5, 6, 26)] ∈ zT ∧ Cond.static yL_behind ∈ zT ∧ Cond.initialized RL ∈ zT := ⟨zTi 681 (by decide +kernel) rfl, zTi 680 (by decide +kernel) rfl, zTi 0 (by decide +kernel) rfl⟩
theorem mwL_bid : Cond.codeWith yL_bid cL_bid 4 (some .int) [(0, 6, 7, 26), (0, 6, 11, 29)] ∈ zT ∧ Cond.static yL_bid ∈ zT ∧ Cond.initialized RL ∈ zT := ⟨zTi 638 (by decide +kernel) rfl, zTi 637 (by decide +kernel) rfl, zTi 0 (by decide +kernel) rfl⟩
theorem moL_cell : zMok ML_cell 2 := ⟨zTi 128 (by decide +kernel) rfl, zTi 0 (by decide +kernel) rfl, by decide, by decide, by decide +kernel⟩
theorem msL_cell : Cond.static yL_cell ∈ zT := zTi 127 (by decide +kernel) rfl
theorem mwL_copy : Cond.codeWith yL_copy cL_copy 5 (some .int) [(0, 7, 8, 26), (0, 7, 13, 29)] ∈ zT ∧ Cond.static yL_copy ∈ zT ∧ Cond.initialized RL ∈ zT := ⟨zTi 889 (by decide +kernel) rfl, zTi 888 (by decide +kernel) rfl, zTi 0 (by decide +kernel) rfl⟩
theorem mwL_draw : Cond.codeWith yL_draw cL_draw 9 (some .int) [(0, 15, 16, 26), (0, 15, 21, 29)] ∈ zT ∧ Cond.static yL_draw ∈ zT ∧ Cond.initialized RL ∈ zT := ⟨zTi 529 (by decide +kernel) rfl, zTi 528 (by decide +kernel) rfl, zTi 0 (by decide +kernel) rfl⟩
theorem mwL_guesses : Cond.codeWith yL_guesses cL_guesses 3 (some .int) [(0, 5, 6, 26)] ∈ zT ∧ Cond.static yL_guesses ∈ zT ∧ Cond.initialized RL ∈ zT := ⟨zTi 878 (by decide +kernel) rfl, zTi 877 (by decide +kernel) rfl, zTi 0 (by decide +kernel) rfl⟩
theorem mwL_host : Cond.codeWith yL_host cL_host 3 (some .int) [(0, 5, 6, 26)] ∈ zT ∧ Cond.static yL_host ∈ zT ∧ Cond.initialized RL ∈ zT := ⟨zTi 943 (by decide +kernel) rfl, zTi 942 (by decide +kernel) rfl, zTi 0 (by decide +kernel) rfl⟩
theorem mwL_is : Cond.codeWith yL_is cL_is 7 (some .int) [(0, 122, 123, 26), (0, 122, 128, 29), (0, 122, 133, 19)] ∈ zT ∧ Cond.static yL_is ∈ zT ∧ Cond.initialized RL ∈ zT := ⟨zTi 1009 (by decide +kernel) rfl, zTi 1008 (by decide +kernel) rfl, zTi 0 (by decide +kernel) rfl⟩
theorem mwL_join : Cond.codeWith yL_join cL_join 4 (some .int) [(0, 6, 7, 26), (0, 6, 11, 29), (0, 6, 15, 19)] ∈ zT ∧ Cond.static yL_join ∈ zT ∧ Cond.initialized RL ∈ zT := ⟨zTi 555 (by decide +kernel) rfl, zTi 554 (by decide +kernel) rfl, zTi 0 (by decide +kernel) rfl⟩
theorem mwL_left : Cond.codeWith yL_left cL_left 3 (some .int) [(0, 5, 6, 26), (0, 5, 10, 19)] ∈ zT ∧ Cond.static yL_left ∈ zT ∧ Cond.initialized RL ∈ zT := ⟨zTi 934 (by decide +kernel) rfl, zTi 933 (by decide +kernel) rfl, zTi 0 (by decide +kernel) rfl⟩
theorem mwL_money : Cond.codeWith yL_money cL_money 3 (some .int) [(0, 5, 6, 26)] ∈ zT ∧ Cond.static yL_money ∈ zT ∧ Cond.initialized RL ∈ zT := ⟨zTi 650 (by decide +kernel) rfl, zTi 649 (by decide +kernel) rfl, zTi 0 (by decide +kernel) rfl⟩
theorem mwL_moveWindow : Cond.codeWith yL_moveWindow cL_moveWindow 6 (some .int) [(0, 9, 10, 26), (0, 9, 15, 29)] ∈ zT ∧ Cond.static yL_moveWindow ∈ zT ∧ Cond.initialized RL ∈ zT := ⟨zTi 516 (by decide +kernel) rfl, zTi 515 (by decide +kernel) rfl, zTi 0 (by decide +kernel) rfl⟩
theorem mwL_next : Cond.codeWith yL_next cL_next 3 (some .int) [(0, 5, 6, 26), (0, 5, 10, 68)] ∈ zT ∧ Cond.static yL_next ∈ zT ∧ Cond.initialized RL ∈ zT := ⟨zTi 1062 (by decide +kernel) rfl, zTi 1061 (by decide +kernel) rfl, zTi 0 (by decide +kernel) rfl⟩
theorem mwL_nextCost : Cond.codeWith yL_nextCost cL_nextCost 3 (some .int) [(0, 5, 6, 26), (0, 5, 10, 68)] ∈ zT ∧ Cond.static yL_nextCost ∈ zT ∧ Cond.initialized RL ∈ zT := ⟨zTi 1074 (by decide +kernel) rfl, zTi 1073 (by decide +kernel) rfl, zTi 0 (by decide +kernel) rfl⟩
theorem mwL_noted : Cond.codeWith yL_noted cL_noted 3 (some .int) [(0, 5, 6, 26), (0, 5, 10, 68)] ∈ zT ∧ Cond.static yL_noted ∈ zT ∧ Cond.initialized RL ∈ zT := ⟨zTi 1001 (by decide +kernel) rfl, zTi 1000 (by decide +kernel) rfl, zTi 0 (by decide +kernel) rfl⟩
theorem mwL_openSession : Cond.codeWith yL_openSession cL_openSession 2 (some .int) [(0, 4, 5, 19)] ∈ zT ∧ Cond.static yL_openSession ∈ zT ∧ Cond.initialized RL ∈ zT := ⟨zTi 131 (by decide +kernel) rfl, zTi 130 (by decide +kernel) rfl, zTi 0 (by decide +kernel) rfl⟩
theorem mwL_openWindow : Cond.codeWith yL_openWindow cL_openWindow 7 (some .int) [(0, 11, 12, 26), (0, 11, 17, 29), (0, 11, 22, 19)] ∈ zT ∧ Cond.static yL_openWindow ∈ zT ∧ Cond.initialized RL ∈ zT := ⟨zTi 322 (by decide +kernel) rfl, zTi 321 (by decide +kernel) rfl, zTi 0 (by decide +kernel) rfl⟩
theorem mwL_paste : Cond.codeWith yL_paste cL_paste 4 (some .int) [(0, 6, 7, 26), (0, 6, 11, 68), (0, 6, 15, 81)] ∈ zT ∧ Cond.static yL_paste ∈ zT ∧ Cond.initialized RL ∈ zT := ⟨zTi 900 (by decide +kernel) rfl, zTi 899 (by decide +kernel) rfl, zTi 0 (by decide +kernel) rfl⟩
theorem mwL_picture : Cond.codeWith yL_picture cL_picture 5 (some .int) [(0, 7, 8, 26)] ∈ zT ∧ Cond.static yL_picture ∈ zT ∧ Cond.initialized RL ∈ zT := ⟨zTi 657 (by decide +kernel) rfl, zTi 656 (by decide +kernel) rfl, zTi 0 (by decide +kernel) rfl⟩
theorem mwL_played : Cond.codeWith yL_played cL_played 6 (some .int) [(0, 9, 10, 26), (0, 9, 15, 68)] ∈ zT ∧ Cond.static yL_played ∈ zT ∧ Cond.initialized RL ∈ zT := ⟨zTi 992 (by decide +kernel) rfl, zTi 991 (by decide +kernel) rfl, zTi 0 (by decide +kernel) rfl⟩
theorem mwL_record : Cond.codeWith yL_record cL_record 3 (some .int) [(0, 5, 6, 26)] ∈ zT ∧ Cond.static yL_record ∈ zT ∧ Cond.initialized RL ∈ zT := ⟨zTi 950 (by decide +kernel) rfl, zTi 949 (by decide +kernel) rfl, zTi 0 (by decide +kernel) rfl⟩
theorem mwL_screen : Cond.codeWith yL_screen cL_screen 5 (some .int) [(0, 7, 8, 26)] ∈ zT ∧ Cond.static yL_screen ∈ zT ∧ Cond.initialized RL ∈ zT := ⟨zTi 544 (by decide +kernel) rfl, zTi 543 (by decide +kernel) rfl, zTi 0 (by decide +kernel) rfl⟩
theorem mwL_seen : Cond.codeWith yL_seen cL_seen 5 (some .int) [(0, 7, 8, 26)] ∈ zT ∧ Cond.static yL_seen ∈ zT ∧ Cond.initialized RL ∈ zT := ⟨zTi 664 (by decide +kernel) rfl, zTi 663 (by decide +kernel) rfl, zTi 0 (by decide +kernel) rfl⟩
theorem moL_some : zMok ML_some 3 := ⟨zTi 125 (by decide +kernel) rfl, zTi 0 (by decide +kernel) rfl, by decide, by decide, by decide +kernel⟩
theorem msL_some : Cond.static yL_some ∈ zT := zTi 124 (by decide +kernel) rfl
theorem mwL_tick : Cond.codeWith yL_tick cL_tick 3 (some .int) [(0, 5, 6, 29)] ∈ zT ∧ Cond.static yL_tick ∈ zT ∧ Cond.initialized RL ∈ zT := ⟨zTi 696 (by decide +kernel) rfl, zTi 695 (by decide +kernel) rfl, zTi 0 (by decide +kernel) rfl⟩
theorem moL_told : zMok ML_told 3 := ⟨zTi 1059 (by decide +kernel) rfl, zTi 0 (by decide +kernel) rfl, by decide, by decide, by decide +kernel⟩
theorem msL_told : Cond.static yL_told ∈ zT := zTi 1058 (by decide +kernel) rfl
theorem mwL_type : Cond.codeWith yL_type cL_type 4 (some .int) [(0, 6, 7, 26), (0, 6, 11, 29), (0, 6, 15, 81), (0, 6, 19, 19)] ∈ zT ∧ Cond.static yL_type ∈ zT ∧ Cond.initialized RL ∈ zT := ⟨zTi 816 (by decide +kernel) rfl, zTi 815 (by decide +kernel) rfl, zTi 0 (by decide +kernel) rfl⟩
theorem moX0_apply : zMok MX0_apply 0 := ⟨zTi 768 (by decide +kernel) rfl, zTi 17 (by decide +kernel) rfl, by decide, by decide, by decide +kernel⟩
theorem mvX0_apply : zVok MX0_apply := ⟨zTi 766 (by decide +kernel) rfl, zTi 767 (by decide +kernel) rfl⟩
theorem moX0_colourAfter : zMok MX0_colourAfter 1 := ⟨zTi 773 (by decide +kernel) rfl, zTi 17 (by decide +kernel) rfl, by decide, by decide, by decide +kernel⟩
theorem mvX0_colourAfter : zVok MX0_colourAfter := ⟨zTi 771 (by decide +kernel) rfl, zTi 772 (by decide +kernel) rfl⟩
theorem moX0_consider : zMok MX0_consider 6 := ⟨zTi 755 (by decide +kernel) rfl, zTi 17 (by decide +kernel) rfl, by decide, by decide, by decide +kernel⟩
theorem mvX0_consider : zVok MX0_consider := ⟨zTi 753 (by decide +kernel) rfl, zTi 754 (by decide +kernel) rfl⟩
theorem moX0_find : zMok MX0_find 0 := ⟨zTi 735 (by decide +kernel) rfl, zTi 17 (by decide +kernel) rfl, by decide, by decide, by decide +kernel⟩
theorem mvX0_find : zVok MX0_find := ⟨zTi 733 (by decide +kernel) rfl, zTi 734 (by decide +kernel) rfl⟩
theorem moX0_gainOf : zMok MX0_gainOf 2 := ⟨zTi 751 (by decide +kernel) rfl, zTi 17 (by decide +kernel) rfl, by decide, by decide, by decide +kernel⟩
theorem mvX0_gainOf : zVok MX0_gainOf := ⟨zTi 749 (by decide +kernel) rfl, zTi 750 (by decide +kernel) rfl⟩
theorem moX0_init : zMok MX0_init 1 := ⟨zTi 570 (by decide +kernel) rfl, zTi 17 (by decide +kernel) rfl, by decide, by decide, by decide +kernel⟩
theorem miX0_init : Cond.instanceMethod yX0_init ∈ zT := zTi 569 (by decide +kernel) rfl
theorem moX0_isBehind : zMok MX0_isBehind 1 := ⟨zTi 693 (by decide +kernel) rfl, zTi 17 (by decide +kernel) rfl, by decide, by decide, by decide +kernel⟩
theorem mvX0_isBehind : zVok MX0_isBehind := ⟨zTi 691 (by decide +kernel) rfl, zTi 692 (by decide +kernel) rfl⟩
theorem moX0_tryCells : zMok MX0_tryCells 0 := ⟨zTi 759 (by decide +kernel) rfl, zTi 17 (by decide +kernel) rfl, by decide, by decide, by decide +kernel⟩
theorem mvX0_tryCells : zVok MX0_tryCells := ⟨zTi 757 (by decide +kernel) rfl, zTi 758 (by decide +kernel) rfl⟩
theorem moX0_tryCopies : zMok MX0_tryCopies 0 := ⟨zTi 740 (by decide +kernel) rfl, zTi 17 (by decide +kernel) rfl, by decide, by decide, by decide +kernel⟩
theorem mvX0_tryCopies : zVok MX0_tryCopies := ⟨zTi 738 (by decide +kernel) rfl, zTi 739 (by decide +kernel) rfl⟩
theorem moX0_tryRectangles : zMok MX0_tryRectangles 2 := ⟨zTi 744 (by decide +kernel) rfl, zTi 17 (by decide +kernel) rfl, by decide, by decide, by decide +kernel⟩
theorem mvX0_tryRectangles : zVok MX0_tryRectangles := ⟨zTi 742 (by decide +kernel) rfl, zTi 743 (by decide +kernel) rfl⟩
theorem moX1_countBehind : zMok MX1_countBehind 0 := ⟨zTi 689 (by decide +kernel) rfl, zTi 16 (by decide +kernel) rfl, by decide, by decide, by decide +kernel⟩
theorem mvX1_countBehind : zVok MX1_countBehind := ⟨zTi 687 (by decide +kernel) rfl, zTi 688 (by decide +kernel) rfl⟩
theorem moX1_endGuess : zMok MX1_endGuess 1 := ⟨zTi 793 (by decide +kernel) rfl, zTi 16 (by decide +kernel) rfl, by decide, by decide, by decide +kernel⟩
theorem mvX1_endGuess : zVok MX1_endGuess := ⟨zTi 791 (by decide +kernel) rfl, zTi 792 (by decide +kernel) rfl⟩
theorem moX1_init : zMok MX1_init 2 := ⟨zTi 564 (by decide +kernel) rfl, zTi 16 (by decide +kernel) rfl, by decide, by decide, by decide +kernel⟩
theorem miX1_init : Cond.instanceMethod yX1_init ∈ zT := zTi 563 (by decide +kernel) rfl
theorem moX2_hold : zMok MX2_hold 3 := ⟨zTi 897 (by decide +kernel) rfl, zTi 6 (by decide +kernel) rfl, by decide, by decide, by decide +kernel⟩
theorem mvX2_hold : zVok MX2_hold := ⟨zTi 895 (by decide +kernel) rfl, zTi 896 (by decide +kernel) rfl⟩
theorem moX2_init : zMok MX2_init 0 := ⟨zTi 173 (by decide +kernel) rfl, zTi 6 (by decide +kernel) rfl, by decide, by decide, by decide +kernel⟩
theorem miX2_init : Cond.instanceMethod yX2_init ∈ zT := zTi 172 (by decide +kernel) rfl
theorem moX3_init : zMok MX3_init 4 := ⟨zTi 854 (by decide +kernel) rfl, zTi 28 (by decide +kernel) rfl, by decide, by decide, by decide +kernel⟩
theorem miX3_init : Cond.instanceMethod yX3_init ∈ zT := zTi 853 (by decide +kernel) rfl
theorem moX4_begin : zMok MX4_begin 0 := ⟨zTi 989 (by decide +kernel) rfl, zTi 29 (by decide +kernel) rfl, by decide, by decide, by decide +kernel⟩
theorem mvX4_begin : zVok MX4_begin := ⟨zTi 987 (by decide +kernel) rfl, zTi 988 (by decide +kernel) rfl⟩
theorem moX4_endTick : zMok MX4_endTick 0 := ⟨zTi 813 (by decide +kernel) rfl, zTi 29 (by decide +kernel) rfl, by decide, by decide, by decide +kernel⟩
theorem mvX4_endTick : zVok MX4_endTick := ⟨zTi 811 (by decide +kernel) rfl, zTi 812 (by decide +kernel) rfl⟩
theorem moX4_init : zMok MX4_init 0 := ⟨zTi 959 (by decide +kernel) rfl, zTi 29 (by decide +kernel) rfl, by decide, by decide, by decide +kernel⟩
theorem miX4_init : Cond.instanceMethod yX4_init ∈ zT := zTi 958 (by decide +kernel) rfl
theorem moX4_isAsLookedAt : zMok MX4_isAsLookedAt 0 := ⟨zTi 111 (by decide +kernel) rfl, zTi 29 (by decide +kernel) rfl, by decide, by decide, by decide +kernel⟩
theorem mvX4_isAsLookedAt : zVok MX4_isAsLookedAt := ⟨zTi 109 (by decide +kernel) rfl, zTi 110 (by decide +kernel) rfl⟩
theorem moX4_isFull : zMok MX4_isFull 0 := ⟨zTi 805 (by decide +kernel) rfl, zTi 29 (by decide +kernel) rfl, by decide, by decide, by decide +kernel⟩
theorem mvX4_isFull : zVok MX4_isFull := ⟨zTi 803 (by decide +kernel) rfl, zTi 804 (by decide +kernel) rfl⟩
theorem moX4_look : zMok MX4_look 2 := ⟨zTi 809 (by decide +kernel) rfl, zTi 29 (by decide +kernel) rfl, by decide, by decide, by decide +kernel⟩
theorem mvX4_look : zVok MX4_look := ⟨zTi 807 (by decide +kernel) rfl, zTi 808 (by decide +kernel) rfl⟩
theorem moX4_play : zMok MX4_play 1 := ⟨zTi 115 (by decide +kernel) rfl, zTi 29 (by decide +kernel) rfl, by decide, by decide, by decide +kernel⟩
theorem mvX4_play : zVok MX4_play := ⟨zTi 113 (by decide +kernel) rfl, zTi 114 (by decide +kernel) rfl⟩
theorem moX5_addWindow : zMok MX5_addWindow 1 := ⟨zTi 444 (by decide +kernel) rfl, zTi 2 (by decide +kernel) rfl, by decide, by decide, by decide +kernel⟩
theorem mvX5_addWindow : zVok MX5_addWindow := ⟨zTi 442 (by decide +kernel) rfl, zTi 443 (by decide +kernel) rfl⟩
theorem moX5_advanceMove : zMok MX5_advanceMove 0 := ⟨zTi 709 (by decide +kernel) rfl, zTi 2 (by decide +kernel) rfl, by decide, by decide, by decide +kernel⟩
theorem mvX5_advanceMove : zVok MX5_advanceMove := ⟨zTi 707 (by decide +kernel) rfl, zTi 708 (by decide +kernel) rfl⟩
theorem moX5_colourOfWindows : zMok MX5_colourOfWindows 1 := ⟨zTi 76 (by decide +kernel) rfl, zTi 2 (by decide +kernel) rfl, by decide, by decide, by decide +kernel⟩
theorem mvX5_colourOfWindows : zVok MX5_colourOfWindows := ⟨zTi 74 (by decide +kernel) rfl, zTi 75 (by decide +kernel) rfl⟩
theorem moX5_countKeysBy : zMok MX5_countKeysBy 1 := ⟨zTi 886 (by decide +kernel) rfl, zTi 2 (by decide +kernel) rfl, by decide, by decide, by decide +kernel⟩
theorem mvX5_countKeysBy : zVok MX5_countKeysBy := ⟨zTi 884 (by decide +kernel) rfl, zTi 885 (by decide +kernel) rfl⟩
theorem moX5_countKeysOf : zMok MX5_countKeysOf 1 := ⟨zTi 848 (by decide +kernel) rfl, zTi 2 (by decide +kernel) rfl, by decide, by decide, by decide +kernel⟩
theorem mvX5_countKeysOf : zVok MX5_countKeysOf := ⟨zTi 846 (by decide +kernel) rfl, zTi 847 (by decide +kernel) rfl⟩
theorem moX5_doKeys : zMok MX5_doKeys 0 := ⟨zTi 777 (by decide +kernel) rfl, zTi 2 (by decide +kernel) rfl, by decide, by decide, by decide +kernel⟩
theorem mvX5_doKeys : zVok MX5_doKeys := ⟨zTi 775 (by decide +kernel) rfl, zTi 776 (by decide +kernel) rfl⟩
theorem moX5_init : zMok MX5_init 0 := ⟨zTi 140 (by decide +kernel) rfl, zTi 2 (by decide +kernel) rfl, by decide, by decide, by decide +kernel⟩
theorem miX5_init : Cond.instanceMethod yX5_init ∈ zT := zTi 139 (by decide +kernel) rfl
theorem moX5_isOnTop : zMok MX5_isOnTop 1 := ⟨zTi 1034 (by decide +kernel) rfl, zTi 2 (by decide +kernel) rfl, by decide, by decide, by decide +kernel⟩
theorem mvX5_isOnTop : zVok MX5_isOnTop := ⟨zTi 1032 (by decide +kernel) rfl, zTi 1033 (by decide +kernel) rfl⟩
theorem moX5_isPainted : zMok MX5_isPainted 0 := ⟨zTi 72 (by decide +kernel) rfl, zTi 2 (by decide +kernel) rfl, by decide, by decide, by decide +kernel⟩
theorem mvX5_isPainted : zVok MX5_isPainted := ⟨zTi 70 (by decide +kernel) rfl, zTi 71 (by decide +kernel) rfl⟩
theorem moX5_isRight : zMok MX5_isRight 1 := ⟨zTi 789 (by decide +kernel) rfl, zTi 2 (by decide +kernel) rfl, by decide, by decide, by decide +kernel⟩
theorem mvX5_isRight : zVok MX5_isRight := ⟨zTi 787 (by decide +kernel) rfl, zTi 788 (by decide +kernel) rfl⟩
theorem moX5_isTrue : zMok MX5_isTrue 0 := ⟨zTi 68 (by decide +kernel) rfl, zTi 2 (by decide +kernel) rfl, by decide, by decide, by decide +kernel⟩
theorem mvX5_isTrue : zVok MX5_isTrue := ⟨zTi 66 (by decide +kernel) rfl, zTi 67 (by decide +kernel) rfl⟩
theorem moX5_lastGuessAt : zMok MX5_lastGuessAt 2 := ⟨zTi 672 (by decide +kernel) rfl, zTi 2 (by decide +kernel) rfl, by decide, by decide, by decide +kernel⟩
theorem mvX5_lastGuessAt : zVok MX5_lastGuessAt := ⟨zTi 670 (by decide +kernel) rfl, zTi 671 (by decide +kernel) rfl⟩
theorem moX5_lookForRecording : zMok MX5_lookForRecording 0 := ⟨zTi 801 (by decide +kernel) rfl, zTi 2 (by decide +kernel) rfl, by decide, by decide, by decide +kernel⟩
theorem mvX5_lookForRecording : zVok MX5_lookForRecording := ⟨zTi 799 (by decide +kernel) rfl, zTi 800 (by decide +kernel) rfl⟩
theorem moX5_repaint : zMok MX5_repaint 0 := ⟨zTi 511 (by decide +kernel) rfl, zTi 2 (by decide +kernel) rfl, by decide, by decide, by decide +kernel⟩
theorem mvX5_repaint : zVok MX5_repaint := ⟨zTi 509 (by decide +kernel) rfl, zTi 510 (by decide +kernel) rfl⟩
theorem moX5_takeFromPile : zMok MX5_takeFromPile 1 := ⟨zTi 1017 (by decide +kernel) rfl, zTi 2 (by decide +kernel) rfl, by decide, by decide, by decide +kernel⟩
theorem mvX5_takeFromPile : zVok MX5_takeFromPile := ⟨zTi 1015 (by decide +kernel) rfl, zTi 1016 (by decide +kernel) rfl⟩
theorem moX5_topShown : zMok MX5_topShown 0 := ⟨zTi 826 (by decide +kernel) rfl, zTi 2 (by decide +kernel) rfl, by decide, by decide, by decide +kernel⟩
theorem mvX5_topShown : zVok MX5_topShown := ⟨zTi 824 (by decide +kernel) rfl, zTi 825 (by decide +kernel) rfl⟩
theorem moX5_topShownAt : zMok MX5_topShownAt 2 := ⟨zTi 80 (by decide +kernel) rfl, zTi 2 (by decide +kernel) rfl, by decide, by decide, by decide +kernel⟩
theorem mvX5_topShownAt : zVok MX5_topShownAt := ⟨zTi 78 (by decide +kernel) rfl, zTi 79 (by decide +kernel) rfl⟩
theorem moX6_advance : zMok MX6_advance 1 := ⟨zTi 713 (by decide +kernel) rfl, zTi 7 (by decide +kernel) rfl, by decide, by decide, by decide +kernel⟩
theorem mvX6_advance : zVok MX6_advance := ⟨zTi 711 (by decide +kernel) rfl, zTi 712 (by decide +kernel) rfl⟩
theorem moX6_begin : zMok MX6_begin 0 := ⟨zTi 1056 (by decide +kernel) rfl, zTi 7 (by decide +kernel) rfl, by decide, by decide, by decide +kernel⟩
theorem mvX6_begin : zVok MX6_begin := ⟨zTi 1054 (by decide +kernel) rfl, zTi 1055 (by decide +kernel) rfl⟩
theorem moX6_countRowsLeft : zMok MX6_countRowsLeft 1 := ⟨zTi 717 (by decide +kernel) rfl, zTi 7 (by decide +kernel) rfl, by decide, by decide, by decide +kernel⟩
theorem mvX6_countRowsLeft : zVok MX6_countRowsLeft := ⟨zTi 715 (by decide +kernel) rfl, zTi 716 (by decide +kernel) rfl⟩
theorem moX6_init : zMok MX6_init 0 := ⟨zTi 193 (by decide +kernel) rfl, zTi 7 (by decide +kernel) rfl, by decide, by decide, by decide +kernel⟩
theorem miX6_init : Cond.instanceMethod yX6_init ∈ zT := zTi 192 (by decide +kernel) rfl
theorem moX6_isOther : zMok MX6_isOther 2 := ⟨zTi 721 (by decide +kernel) rfl, zTi 7 (by decide +kernel) rfl, by decide, by decide, by decide +kernel⟩
theorem mvX6_isOther : zVok MX6_isOther := ⟨zTi 719 (by decide +kernel) rfl, zTi 720 (by decide +kernel) rfl⟩
theorem moX6_nextRow : zMok MX6_nextRow 1 := ⟨zTi 725 (by decide +kernel) rfl, zTi 7 (by decide +kernel) rfl, by decide, by decide, by decide +kernel⟩
theorem mvX6_nextRow : zVok MX6_nextRow := ⟨zTi 723 (by decide +kernel) rfl, zTi 724 (by decide +kernel) rfl⟩
theorem moX7_cellAhead : zMok MX7_cellAhead 1 := ⟨zTi 785 (by decide +kernel) rfl, zTi 18 (by decide +kernel) rfl, by decide, by decide, by decide +kernel⟩
theorem mvX7_cellAhead : zVok MX7_cellAhead := ⟨zTi 783 (by decide +kernel) rfl, zTi 784 (by decide +kernel) rfl⟩
theorem moX7_colourAt : zMok MX7_colourAt 2 := ⟨zTi 107 (by decide +kernel) rfl, zTi 18 (by decide +kernel) rfl, by decide, by decide, by decide +kernel⟩
theorem mvX7_colourAt : zVok MX7_colourAt := ⟨zTi 105 (by decide +kernel) rfl, zTi 106 (by decide +kernel) rfl⟩
theorem moX7_covers : zMok MX7_covers 2 := ⟨zTi 103 (by decide +kernel) rfl, zTi 18 (by decide +kernel) rfl, by decide, by decide, by decide +kernel⟩
theorem mvX7_covers : zVok MX7_covers := ⟨zTi 101 (by decide +kernel) rfl, zTi 102 (by decide +kernel) rfl⟩
theorem moX7_fillPart : zMok MX7_fillPart 5 := ⟨zTi 540 (by decide +kernel) rfl, zTi 18 (by decide +kernel) rfl, by decide, by decide, by decide +kernel⟩
theorem mvX7_fillPart : zVok MX7_fillPart := ⟨zTi 538 (by decide +kernel) rfl, zTi 539 (by decide +kernel) rfl⟩
theorem moX7_init : zMok MX7_init 4 := ⟨zTi 400 (by decide +kernel) rfl, zTi 18 (by decide +kernel) rfl, by decide, by decide, by decide +kernel⟩
theorem miX7_init : Cond.instanceMethod yX7_init ∈ zT := zTi 399 (by decide +kernel) rfl
theorem moX7_placeOf : zMok MX7_placeOf 1 := ⟨zTi 677 (by decide +kernel) rfl, zTi 18 (by decide +kernel) rfl, by decide, by decide, by decide +kernel⟩
theorem mvX7_placeOf : zVok MX7_placeOf := ⟨zTi 675 (by decide +kernel) rfl, zTi 676 (by decide +kernel) rfl⟩
theorem moX7_put : zMok MX7_put 1 := ⟨zTi 781 (by decide +kernel) rfl, zTi 18 (by decide +kernel) rfl, by decide, by decide, by decide +kernel⟩
theorem mvX7_put : zVok MX7_put := ⟨zTi 779 (by decide +kernel) rfl, zTi 780 (by decide +kernel) rfl⟩
theorem moX8_allow : zMok MX8_allow 4 := ⟨zTi 1046 (by decide +kernel) rfl, zTi 1 (by decide +kernel) rfl, by decide, by decide, by decide +kernel⟩
theorem mvX8_allow : zVok MX8_allow := ⟨zTi 1044 (by decide +kernel) rfl, zTi 1045 (by decide +kernel) rfl⟩
theorem moX8_behind : zMok MX8_behind 1 := ⟨zTi 685 (by decide +kernel) rfl, zTi 1 (by decide +kernel) rfl, by decide, by decide, by decide +kernel⟩
theorem mvX8_behind : zVok MX8_behind := ⟨zTi 683 (by decide +kernel) rfl, zTi 684 (by decide +kernel) rfl⟩
theorem moX8_bid : zMok MX8_bid 2 := ⟨zTi 642 (by decide +kernel) rfl, zTi 1 (by decide +kernel) rfl, by decide, by decide, by decide +kernel⟩
theorem mvX8_bid : zVok MX8_bid := ⟨zTi 640 (by decide +kernel) rfl, zTi 641 (by decide +kernel) rfl⟩
theorem moX8_canPass : zMok MX8_canPass 2 := ⟨zTi 926 (by decide +kernel) rfl, zTi 1 (by decide +kernel) rfl, by decide, by decide, by decide +kernel⟩
theorem mvX8_canPass : zVok MX8_canPass := ⟨zTi 925 (by decide +kernel) rfl, zTm (by decide +kernel) rfl⟩
theorem moX8_carried : zMok MX8_carried 0 := ⟨zTi 60 (by decide +kernel) rfl, zTi 1 (by decide +kernel) rfl, by decide, by decide, by decide +kernel⟩
theorem mvX8_carried : zVok MX8_carried := ⟨zTi 58 (by decide +kernel) rfl, zTi 59 (by decide +kernel) rfl⟩
theorem moX8_clientAt : zMok MX8_clientAt 1 := ⟨zTi 646 (by decide +kernel) rfl, zTi 1 (by decide +kernel) rfl, by decide, by decide, by decide +kernel⟩
theorem mvX8_clientAt : zVok MX8_clientAt := ⟨zTi 645 (by decide +kernel) rfl, zTm (by decide +kernel) rfl⟩
theorem moX8_closeWindow : zMok MX8_closeWindow 2 := ⟨zTi 1013 (by decide +kernel) rfl, zTi 1 (by decide +kernel) rfl, by decide, by decide, by decide +kernel⟩
theorem mvX8_closeWindow : zVok MX8_closeWindow := ⟨zTi 1011 (by decide +kernel) rfl, zTi 1012 (by decide +kernel) rfl⟩
theorem moX8_copy : zMok MX8_copy 3 := ⟨zTi 893 (by decide +kernel) rfl, zTi 1 (by decide +kernel) rfl, by decide, by decide, by decide +kernel⟩
theorem mvX8_copy : zVok MX8_copy := ⟨zTi 891 (by decide +kernel) rfl, zTi 892 (by decide +kernel) rfl⟩
theorem moX8_draw : zMok MX8_draw 7 := ⟨zTi 533 (by decide +kernel) rfl, zTi 1 (by decide +kernel) rfl, by decide, by decide, by decide +kernel⟩
theorem mvX8_draw : zVok MX8_draw := ⟨zTi 531 (by decide +kernel) rfl, zTi 532 (by decide +kernel) rfl⟩
theorem moX8_guesses : zMok MX8_guesses 1 := ⟨zTi 882 (by decide +kernel) rfl, zTi 1 (by decide +kernel) rfl, by decide, by decide, by decide +kernel⟩
theorem mvX8_guesses : zVok MX8_guesses := ⟨zTi 880 (by decide +kernel) rfl, zTi 881 (by decide +kernel) rfl⟩
theorem moX8_host : zMok MX8_host 1 := ⟨zTi 947 (by decide +kernel) rfl, zTi 1 (by decide +kernel) rfl, by decide, by decide, by decide +kernel⟩
theorem mvX8_host : zVok MX8_host := ⟨zTi 945 (by decide +kernel) rfl, zTi 946 (by decide +kernel) rfl⟩
theorem moX8_init : zMok MX8_init 0 := ⟨zTi 35 (by decide +kernel) rfl, zTi 1 (by decide +kernel) rfl, by decide, by decide, by decide +kernel⟩
theorem miX8_init : Cond.instanceMethod yX8_init ∈ zT := zTi 34 (by decide +kernel) rfl
theorem moX8_isConsistent : zMok MX8_isConsistent 0 := ⟨zTi 64 (by decide +kernel) rfl, zTi 1 (by decide +kernel) rfl, by decide, by decide, by decide +kernel⟩
theorem mvX8_isConsistent : zVok MX8_isConsistent := ⟨zTi 62 (by decide +kernel) rfl, zTi 63 (by decide +kernel) rfl⟩
theorem moX8_isScreenCell : zMok MX8_isScreenCell 2 := ⟨zTi 536 (by decide +kernel) rfl, zTi 1 (by decide +kernel) rfl, by decide, by decide, by decide +kernel⟩
theorem msX8_isScreenCell : Cond.static yX8_isScreenCell ∈ zT := zTi 535 (by decide +kernel) rfl
theorem moX8_isSession : zMok MX8_isSession 1 := ⟨zTi 359 (by decide +kernel) rfl, zTi 1 (by decide +kernel) rfl, by decide, by decide, by decide +kernel⟩
theorem mvX8_isSession : zVok MX8_isSession := ⟨zTi 358 (by decide +kernel) rfl, zTm (by decide +kernel) rfl⟩
theorem moX8_isSize : zMok MX8_isSize 2 := ⟨zTi 378 (by decide +kernel) rfl, zTi 1 (by decide +kernel) rfl, by decide, by decide, by decide +kernel⟩
theorem msX8_isSize : Cond.static yX8_isSize ∈ zT := zTi 377 (by decide +kernel) rfl
theorem moX8_isWindowPlace : zMok MX8_isWindowPlace 2 := ⟨zTi 375 (by decide +kernel) rfl, zTi 1 (by decide +kernel) rfl, by decide, by decide, by decide +kernel⟩
theorem msX8_isWindowPlace : Cond.static yX8_isWindowPlace ∈ zT := zTi 374 (by decide +kernel) rfl
theorem moX8_isWithin : zMok MX8_isWithin 3 := ⟨zTi 121 (by decide +kernel) rfl, zTi 1 (by decide +kernel) rfl, by decide, by decide, by decide +kernel⟩
theorem msX8_isWithin : Cond.static yX8_isWithin ∈ zT := zTi 120 (by decide +kernel) rfl
theorem moX8_join : zMok MX8_join 2 := ⟨zTi 559 (by decide +kernel) rfl, zTi 1 (by decide +kernel) rfl, by decide, by decide, by decide +kernel⟩
theorem mvX8_join : zVok MX8_join := ⟨zTi 557 (by decide +kernel) rfl, zTi 558 (by decide +kernel) rfl⟩
theorem moX8_left : zMok MX8_left 1 := ⟨zTi 938 (by decide +kernel) rfl, zTi 1 (by decide +kernel) rfl, by decide, by decide, by decide +kernel⟩
theorem mvX8_left : zVok MX8_left := ⟨zTi 936 (by decide +kernel) rfl, zTi 937 (by decide +kernel) rfl⟩
theorem moX8_mark : zMok MX8_mark 4 := ⟨zTi 1042 (by decide +kernel) rfl, zTi 1 (by decide +kernel) rfl, by decide, by decide, by decide +kernel⟩
theorem mvX8_mark : zVok MX8_mark := ⟨zTi 1040 (by decide +kernel) rfl, zTi 1041 (by decide +kernel) rfl⟩
theorem moX8_money : zMok MX8_money 1 := ⟨zTi 654 (by decide +kernel) rfl, zTi 1 (by decide +kernel) rfl, by decide, by decide, by decide +kernel⟩
theorem mvX8_money : zVok MX8_money := ⟨zTi 652 (by decide +kernel) rfl, zTi 653 (by decide +kernel) rfl⟩
theorem moX8_move : zMok MX8_move 1 := ⟨zTi 1051 (by decide +kernel) rfl, zTi 1 (by decide +kernel) rfl, by decide, by decide, by decide +kernel⟩
theorem mvX8_move : zVok MX8_move := ⟨zTi 1049 (by decide +kernel) rfl, zTi 1050 (by decide +kernel) rfl⟩
theorem moX8_moveWindow : zMok MX8_moveWindow 4 := ⟨zTi 520 (by decide +kernel) rfl, zTi 1 (by decide +kernel) rfl, by decide, by decide, by decide +kernel⟩
theorem mvX8_moveWindow : zVok MX8_moveWindow := ⟨zTi 518 (by decide +kernel) rfl, zTi 519 (by decide +kernel) rfl⟩
theorem moX8_next : zMok MX8_next 1 := ⟨zTi 1066 (by decide +kernel) rfl, zTi 1 (by decide +kernel) rfl, by decide, by decide, by decide +kernel⟩
theorem mvX8_next : zVok MX8_next := ⟨zTi 1064 (by decide +kernel) rfl, zTi 1065 (by decide +kernel) rfl⟩
theorem moX8_nextChange : zMok MX8_nextChange 1 := ⟨zTi 1070 (by decide +kernel) rfl, zTi 1 (by decide +kernel) rfl, by decide, by decide, by decide +kernel⟩
theorem mvX8_nextChange : zVok MX8_nextChange := ⟨zTi 1069 (by decide +kernel) rfl, zTm (by decide +kernel) rfl⟩
theorem moX8_nextCost : zMok MX8_nextCost 1 := ⟨zTi 1078 (by decide +kernel) rfl, zTi 1 (by decide +kernel) rfl, by decide, by decide, by decide +kernel⟩
theorem mvX8_nextCost : zVok MX8_nextCost := ⟨zTi 1076 (by decide +kernel) rfl, zTi 1077 (by decide +kernel) rfl⟩
theorem moX8_noted : zMok MX8_noted 1 := ⟨zTi 1005 (by decide +kernel) rfl, zTi 1 (by decide +kernel) rfl, by decide, by decide, by decide +kernel⟩
theorem mvX8_noted : zVok MX8_noted := ⟨zTi 1003 (by decide +kernel) rfl, zTi 1004 (by decide +kernel) rfl⟩
theorem moX8_openSession : zMok MX8_openSession 0 := ⟨zTi 136 (by decide +kernel) rfl, zTi 1 (by decide +kernel) rfl, by decide, by decide, by decide +kernel⟩
theorem mvX8_openSession : zVok MX8_openSession := ⟨zTi 134 (by decide +kernel) rfl, zTi 135 (by decide +kernel) rfl⟩
theorem moX8_openWindow : zMok MX8_openWindow 5 := ⟨zTi 351 (by decide +kernel) rfl, zTi 1 (by decide +kernel) rfl, by decide, by decide, by decide +kernel⟩
theorem mvX8_openWindow : zVok MX8_openWindow := ⟨zTi 349 (by decide +kernel) rfl, zTi 350 (by decide +kernel) rfl⟩
theorem moX8_passTick : zMok MX8_passTick 0 := ⟨zTi 705 (by decide +kernel) rfl, zTi 1 (by decide +kernel) rfl, by decide, by decide, by decide +kernel⟩
theorem mvX8_passTick : zVok MX8_passTick := ⟨zTi 704 (by decide +kernel) rfl, zTm (by decide +kernel) rfl⟩
theorem moX8_paste : zMok MX8_paste 2 := ⟨zTi 905 (by decide +kernel) rfl, zTi 1 (by decide +kernel) rfl, by decide, by decide, by decide +kernel⟩
theorem mvX8_paste : zVok MX8_paste := ⟨zTi 903 (by decide +kernel) rfl, zTi 904 (by decide +kernel) rfl⟩
theorem moX8_picture : zMok MX8_picture 3 := ⟨zTi 661 (by decide +kernel) rfl, zTi 1 (by decide +kernel) rfl, by decide, by decide, by decide +kernel⟩
theorem mvX8_picture : zVok MX8_picture := ⟨zTi 659 (by decide +kernel) rfl, zTi 660 (by decide +kernel) rfl⟩
theorem moX8_played : zMok MX8_played 4 := ⟨zTi 996 (by decide +kernel) rfl, zTi 1 (by decide +kernel) rfl, by decide, by decide, by decide +kernel⟩
theorem mvX8_played : zVok MX8_played := ⟨zTi 994 (by decide +kernel) rfl, zTi 995 (by decide +kernel) rfl⟩
theorem moX8_raise : zMok MX8_raise 2 := ⟨zTi 1030 (by decide +kernel) rfl, zTi 1 (by decide +kernel) rfl, by decide, by decide, by decide +kernel⟩
theorem mvX8_raise : zVok MX8_raise := ⟨zTi 1028 (by decide +kernel) rfl, zTi 1029 (by decide +kernel) rfl⟩
theorem moX8_record : zMok MX8_record 1 := ⟨zTi 954 (by decide +kernel) rfl, zTi 1 (by decide +kernel) rfl, by decide, by decide, by decide +kernel⟩
theorem mvX8_record : zVok MX8_record := ⟨zTi 952 (by decide +kernel) rfl, zTi 953 (by decide +kernel) rfl⟩
theorem moX8_richestServed : zMok MX8_richestServed 1 := ⟨zTi 763 (by decide +kernel) rfl, zTi 1 (by decide +kernel) rfl, by decide, by decide, by decide +kernel⟩
theorem mvX8_richestServed : zVok MX8_richestServed := ⟨zTi 762 (by decide +kernel) rfl, zTm (by decide +kernel) rfl⟩
theorem moX8_rightNumber : zMok MX8_rightNumber 3 := ⟨zTi 929 (by decide +kernel) rfl, zTi 1 (by decide +kernel) rfl, by decide, by decide, by decide +kernel⟩
theorem msX8_rightNumber : Cond.static yX8_rightNumber ∈ zT := zTi 928 (by decide +kernel) rfl
theorem moX8_runLine : zMok MX8_runLine 0 := ⟨zTi 730 (by decide +kernel) rfl, zTi 1 (by decide +kernel) rfl, by decide, by decide, by decide +kernel⟩
theorem mvX8_runLine : zVok MX8_runLine := ⟨zTi 729 (by decide +kernel) rfl, zTm (by decide +kernel) rfl⟩
theorem moX8_screen : zMok MX8_screen 3 := ⟨zTi 548 (by decide +kernel) rfl, zTi 1 (by decide +kernel) rfl, by decide, by decide, by decide +kernel⟩
theorem mvX8_screen : zVok MX8_screen := ⟨zTi 546 (by decide +kernel) rfl, zTi 547 (by decide +kernel) rfl⟩
theorem moX8_screenCell : zMok MX8_screenCell 2 := ⟨zTi 551 (by decide +kernel) rfl, zTi 1 (by decide +kernel) rfl, by decide, by decide, by decide +kernel⟩
theorem msX8_screenCell : Cond.static yX8_screenCell ∈ zT := zTi 550 (by decide +kernel) rfl
theorem moX8_seen : zMok MX8_seen 3 := ⟨zTi 668 (by decide +kernel) rfl, zTi 1 (by decide +kernel) rfl, by decide, by decide, by decide +kernel⟩
theorem mvX8_seen : zVok MX8_seen := ⟨zTi 666 (by decide +kernel) rfl, zTi 667 (by decide +kernel) rfl⟩
theorem moX8_sessionAt : zMok MX8_sessionAt 1 := ⟨zTi 355 (by decide +kernel) rfl, zTi 1 (by decide +kernel) rfl, by decide, by decide, by decide +kernel⟩
theorem mvX8_sessionAt : zVok MX8_sessionAt := ⟨zTi 354 (by decide +kernel) rfl, zTm (by decide +kernel) rfl⟩
theorem moX8_show : zMok MX8_show 3 := ⟨zTi 1038 (by decide +kernel) rfl, zTi 1 (by decide +kernel) rfl, by decide, by decide, by decide +kernel⟩
theorem mvX8_show : zVok MX8_show := ⟨zTi 1036 (by decide +kernel) rfl, zTi 1037 (by decide +kernel) rfl⟩
theorem moX8_tick : zMok MX8_tick 1 := ⟨zTi 700 (by decide +kernel) rfl, zTi 1 (by decide +kernel) rfl, by decide, by decide, by decide +kernel⟩
theorem mvX8_tick : zVok MX8_tick := ⟨zTi 698 (by decide +kernel) rfl, zTi 699 (by decide +kernel) rfl⟩
theorem moX8_type : zMok MX8_type 2 := ⟨zTi 821 (by decide +kernel) rfl, zTi 1 (by decide +kernel) rfl, by decide, by decide, by decide +kernel⟩
theorem mvX8_type : zVok MX8_type := ⟨zTi 819 (by decide +kernel) rfl, zTi 820 (by decide +kernel) rfl⟩
theorem moX8_windowAt : zMok MX8_windowAt 2 := ⟨zTi 523 (by decide +kernel) rfl, zTi 1 (by decide +kernel) rfl, by decide, by decide, by decide +kernel⟩
theorem msX8_windowAt : Cond.static yX8_windowAt ∈ zT := zTi 522 (by decide +kernel) rfl
end
section
theorem mlL_61 : Cond.methodLink RL 61 yX8_behind ∈ zT := zTi 682 (by decide +kernel) rfl
theorem mlL_48 : Cond.methodLink RL 48 yX8_bid ∈ zT := zTi 639 (by decide +kernel) rfl
theorem mlL_87 : Cond.methodLink RL 87 yX8_copy ∈ zT := zTi 890 (by decide +kernel) rfl
theorem mlL_36 : Cond.methodLink RL 36 yX8_draw ∈ zT := zTi 530 (by decide +kernel) rfl
theorem mlL_84 : Cond.methodLink RL 84 yX8_guesses ∈ zT := zTi 879 (by decide +kernel) rfl
theorem mlL_96 : Cond.methodLink RL 96 yX8_host ∈ zT := zTi 944 (by decide +kernel) rfl
theorem mlL_108 : Cond.methodLink RL 108 yX8_closeWindow ∈ zT := zTi 1010 (by decide +kernel) rfl
theorem mlL_112 : Cond.methodLink RL 112 yX8_raise ∈ zT := zTi 1027 (by decide +kernel) rfl
theorem mlL_115 : Cond.methodLink RL 115 yX8_show ∈ zT := zTi 1035 (by decide +kernel) rfl
theorem mlL_119 : Cond.methodLink RL 119 yX8_mark ∈ zT := zTi 1039 (by decide +kernel) rfl
theorem mlL_123 : Cond.methodLink RL 123 yX8_allow ∈ zT := zTi 1043 (by decide +kernel) rfl
theorem mlL_127 : Cond.methodLink RL 127 yX8_move ∈ zT := zTi 1048 (by decide +kernel) rfl
theorem mlL_44 : Cond.methodLink RL 44 yX8_join ∈ zT := zTi 556 (by decide +kernel) rfl
theorem clL_14 : Cond.classLink RL 14 "Remotepane" ∈ zT := zTi 31 (by decide +kernel) rfl
theorem mlL_145 : Cond.methodLink RL 145 yX8_init ∈ zT := zTi 33 (by decide +kernel) rfl
theorem mlL_146 : Cond.methodLink RL 146 yL_some ∈ zT := zTi 123 (by decide +kernel) rfl
theorem mlL_150 : Cond.methodLink RL 150 yL_openSession ∈ zT := zTi 129 (by decide +kernel) rfl
theorem mlL_153 : Cond.methodLink RL 153 yL_join ∈ zT := zTi 553 (by decide +kernel) rfl
theorem mlL_156 : Cond.methodLink RL 156 yL_openWindow ∈ zT := zTi 320 (by decide +kernel) rfl
theorem mlL_159 : Cond.methodLink RL 159 yL_draw ∈ zT := zTi 527 (by decide +kernel) rfl
theorem mlL_162 : Cond.methodLink RL 162 yL_moveWindow ∈ zT := zTi 514 (by decide +kernel) rfl
theorem mlL_167 : Cond.methodLink RL 167 yJ0_charAt_5068e ∈ zT := zTi 1079 (by decide +kernel) rfl
theorem mlL_172 : Cond.methodLink RL 172 yL_is ∈ zT := zTi 1007 (by decide +kernel) rfl
theorem mlL_176 : Cond.methodLink RL 176 yL_guesses ∈ zT := zTi 876 (by decide +kernel) rfl
theorem mlL_178 : Cond.methodLink RL 178 yL_type ∈ zT := zTi 814 (by decide +kernel) rfl
theorem mlL_181 : Cond.methodLink RL 181 yL_left ∈ zT := zTi 932 (by decide +kernel) rfl
theorem mlL_183 : Cond.methodLink RL 183 yL_host ∈ zT := zTi 941 (by decide +kernel) rfl
theorem mlL_185 : Cond.methodLink RL 185 yL_record ∈ zT := zTi 948 (by decide +kernel) rfl
theorem mlL_187 : Cond.methodLink RL 187 yL_noted ∈ zT := zTi 999 (by decide +kernel) rfl
theorem mlL_189 : Cond.methodLink RL 189 yL_played ∈ zT := zTi 990 (by decide +kernel) rfl
theorem mlL_191 : Cond.methodLink RL 191 yL_copy ∈ zT := zTi 887 (by decide +kernel) rfl
theorem mlL_193 : Cond.methodLink RL 193 yL_paste ∈ zT := zTi 898 (by decide +kernel) rfl
theorem mlL_141 : Cond.methodLink RL 141 yL_behind ∈ zT := zTi 679 (by decide +kernel) rfl
theorem mlL_195 : Cond.methodLink RL 195 yL_tick ∈ zT := zTi 694 (by decide +kernel) rfl
theorem mlL_197 : Cond.methodLink RL 197 yX8_carried ∈ zT := zTi 57 (by decide +kernel) rfl
theorem mlL_201 : Cond.methodLink RL 201 yL_told ∈ zT := zTi 1057 (by decide +kernel) rfl
theorem mlL_136 : Cond.methodLink RL 136 yL_picture ∈ zT := zTi 655 (by decide +kernel) rfl
theorem mlL_205 : Cond.methodLink RL 205 yL_seen ∈ zT := zTi 662 (by decide +kernel) rfl
theorem mlL_207 : Cond.methodLink RL 207 yL_bid ∈ zT := zTi 636 (by decide +kernel) rfl
theorem mlL_209 : Cond.methodLink RL 209 yX8_isConsistent ∈ zT := zTi 61 (by decide +kernel) rfl
theorem mlL_139 : Cond.methodLink RL 139 yL_screen ∈ zT := zTi 542 (by decide +kernel) rfl
theorem mlL_143 : Cond.methodLink RL 143 yL_money ∈ zT := zTi 648 (by decide +kernel) rfl
theorem mlL_93 : Cond.methodLink RL 93 yX8_left ∈ zT := zTi 935 (by decide +kernel) rfl
theorem mlL_51 : Cond.methodLink RL 51 yX8_money ∈ zT := zTi 651 (by decide +kernel) rfl
theorem mlL_32 : Cond.methodLink RL 32 yX8_moveWindow ∈ zT := zTi 517 (by decide +kernel) rfl
theorem mlL_64 : Cond.methodLink RL 64 yX8_next ∈ zT := zTi 1063 (by decide +kernel) rfl
theorem mlL_71 : Cond.methodLink RL 71 yX8_nextCost ∈ zT := zTi 1075 (by decide +kernel) rfl
theorem mlL_105 : Cond.methodLink RL 105 yX8_noted ∈ zT := zTi 1002 (by decide +kernel) rfl
theorem mlL_13 : Cond.methodLink RL 13 yX8_openSession ∈ zT := zTi 133 (by decide +kernel) rfl
theorem mlL_22 : Cond.methodLink RL 22 yX8_openWindow ∈ zT := zTi 348 (by decide +kernel) rfl
theorem mlL_90 : Cond.methodLink RL 90 yX8_paste ∈ zT := zTi 902 (by decide +kernel) rfl
theorem mlL_55 : Cond.methodLink RL 55 yX8_picture ∈ zT := zTi 658 (by decide +kernel) rfl
theorem mlL_102 : Cond.methodLink RL 102 yX8_played ∈ zT := zTi 993 (by decide +kernel) rfl
theorem mlL_99 : Cond.methodLink RL 99 yX8_record ∈ zT := zTi 951 (by decide +kernel) rfl
theorem mlL_40 : Cond.methodLink RL 40 yX8_screen ∈ zT := zTi 545 (by decide +kernel) rfl
theorem mlL_58 : Cond.methodLink RL 58 yX8_seen ∈ zT := zTi 665 (by decide +kernel) rfl
theorem mlL_7 : Cond.methodLink RL 7 yL_cell ∈ zT := zTi 126 (by decide +kernel) rfl
theorem mlL_74 : Cond.methodLink RL 74 yX8_tick ∈ zT := zTi 697 (by decide +kernel) rfl
theorem mlL_131 : Cond.methodLink RL 131 yL_next ∈ zT := zTi 1060 (by decide +kernel) rfl
theorem mlL_134 : Cond.methodLink RL 134 yL_nextCost ∈ zT := zTi 1072 (by decide +kernel) rfl
theorem mlL_77 : Cond.methodLink RL 77 yX8_type ∈ zT := zTi 818 (by decide +kernel) rfl
theorem flX0_24 : zFL RX0 24 1 4 104 := ⟨by decide, by decide, rfl, "Remotepane$Change", zTi 577 (by decide +kernel) rfl, Or.inl rfl⟩
theorem flX0_15 : zFL RX0 15 1 0 100 := ⟨by decide, by decide, rfl, "Remotepane$Change", zTi 572 (by decide +kernel) rfl, Or.inl rfl⟩
theorem flX0_18 : zFL RX0 18 1 2 102 := ⟨by decide, by decide, rfl, "Remotepane$Change", zTi 575 (by decide +kernel) rfl, Or.inl rfl⟩
theorem mlX0_83 : Cond.methodLink RX0 83 arraycopyName ∈ zT := zTi 769 (by decide +kernel) rfl
theorem flX0_80 : zFL RX0 80 1 10 110 := ⟨by decide, by decide, rfl, "Remotepane$Change", zTi 585 (by decide +kernel) rfl, Or.inl rfl⟩
theorem flX0_77 : zFL RX0 77 1 9 109 := ⟨by decide, by decide, rfl, "Remotepane$Change", zTi 584 (by decide +kernel) rfl, Or.inl rfl⟩
theorem flX0_35 : zFL RX0 35 1 7 107 := ⟨by decide, by decide, rfl, "Remotepane$Change", zTi 582 (by decide +kernel) rfl, Or.inl rfl⟩
theorem mlX0_89 : Cond.methodLink RX0 89 yX0_colourAfter ∈ zT := zTi 770 (by decide +kernel) rfl
theorem flX0_74 : zFL RX0 74 1 8 108 := ⟨by decide, by decide, rfl, "Remotepane$Change", zTi 583 (by decide +kernel) rfl, Or.inl rfl⟩
theorem flX0_9 : zFL RX0 9 1 1 101 := ⟨by decide, by decide, rfl, "Remotepane$Change", zTi 574 (by decide +kernel) rfl, Or.inl rfl⟩
theorem flX0_32 : zFL RX0 32 1 5 105 := ⟨by decide, by decide, rfl, "Remotepane$Change", zTi 579 (by decide +kernel) rfl, Or.inl rfl⟩
theorem flX0_28 : zFL RX0 28 1 6 106 := ⟨by decide, by decide, rfl, "Remotepane$Change", zTi 581 (by decide +kernel) rfl, Or.inl rfl⟩
theorem mlX0_38 : Cond.methodLink RX0 38 yX0_isBehind ∈ zT := zTi 736 (by decide +kernel) rfl
theorem mlX0_42 : Cond.methodLink RX0 42 yX0_tryCopies ∈ zT := zTi 737 (by decide +kernel) rfl
theorem mlX0_45 : Cond.methodLink RX0 45 yX0_tryRectangles ∈ zT := zTi 741 (by decide +kernel) rfl
theorem mlX0_49 : Cond.methodLink RX0 49 yX0_tryCells ∈ zT := zTi 756 (by decide +kernel) rfl
theorem mlX0_3 : Cond.methodLink RX0 3 Lib.objectInit ∈ zT := zTi 571 (by decide +kernel) rfl
theorem flX0_21 : zFL RX0 21 1 3 103 := ⟨by decide, by decide, rfl, "Remotepane$Change", zTi 576 (by decide +kernel) rfl, Or.inl rfl⟩
theorem mlX0_70 : Cond.methodLink RX0 70 yX0_consider ∈ zT := zTi 752 (by decide +kernel) rfl
theorem mlX0_52 : Cond.methodLink RX0 52 Lib.Math.max.name ∈ zT := zTi 745 (by decide +kernel) rfl
theorem mlX0_58 : Cond.methodLink RX0 58 Lib.Math.min.name ∈ zT := zTi 746 (by decide +kernel) rfl
theorem mlX0_61 : Cond.methodLink RX0 61 yJ7_fill_53178 ∈ zT := zTi 747 (by decide +kernel) rfl
theorem mlX0_67 : Cond.methodLink RX0 67 yX0_gainOf ∈ zT := zTi 748 (by decide +kernel) rfl
theorem flX1_30 : zFL RX1 30 2 2 202 := ⟨by decide, by decide, rfl, "Remotepane$Client", zTi 613 (by decide +kernel) rfl, Or.inl rfl⟩
theorem mlX1_38 : Cond.methodLink RX1 38 yX0_isBehind ∈ zT := zTi 690 (by decide +kernel) rfl
theorem flX1_42 : zFL RX1 42 2 5 205 := ⟨by decide, by decide, rfl, "Remotepane$Client", zTi 618 (by decide +kernel) rfl, Or.inl rfl⟩
theorem flX1_45 : zFL RX1 45 2 6 206 := ⟨by decide, by decide, rfl, "Remotepane$Client", zTi 619 (by decide +kernel) rfl, Or.inl rfl⟩
theorem mlX1_3 : Cond.methodLink RX1 3 Lib.objectInit ∈ zT := zTi 565 (by decide +kernel) rfl
theorem flX1_9 : zFL RX1 9 2 0 200 := ⟨by decide, by decide, rfl, "Remotepane$Client", zTi 609 (by decide +kernel) rfl, Or.inl rfl⟩
theorem flX1_15 : zFL RX1 15 2 3 203 := ⟨by decide, by decide, rfl, "Remotepane$Client", zTi 615 (by decide +kernel) rfl, Or.inl rfl⟩
theorem clX1_19 : Cond.classLink RX1 19 "Remotepane$Change" ∈ zT := zTi 566 (by decide +kernel) rfl
theorem flX1_21 : zFL RX1 21 6 3 603 := ⟨by decide, by decide, rfl, "Remotepane$Session", zTi 217 (by decide +kernel) rfl, Or.inl rfl⟩
theorem mlX1_27 : Cond.methodLink RX1 27 yX0_init ∈ zT := zTi 568 (by decide +kernel) rfl
theorem flX1_34 : zFL RX1 34 1 0 100 := ⟨by decide, by decide, rfl, "Remotepane$Change", zTi 573 (by decide +kernel) rfl, Or.inl rfl⟩
theorem flX1_37 : zFL RX1 37 2 1 201 := ⟨by decide, by decide, rfl, "Remotepane$Client", zTi 611 (by decide +kernel) rfl, Or.inl rfl⟩
theorem flX2_9 : zFL RX2 9 3 0 300 := ⟨by decide, by decide, rfl, "Remotepane$Clipboard", zTi 175 (by decide +kernel) rfl, Or.inl rfl⟩
theorem flX2_15 : zFL RX2 15 3 1 301 := ⟨by decide, by decide, rfl, "Remotepane$Clipboard", zTi 177 (by decide +kernel) rfl, Or.inl rfl⟩
theorem flX2_18 : zFL RX2 18 3 2 302 := ⟨by decide, by decide, rfl, "Remotepane$Clipboard", zTi 179 (by decide +kernel) rfl, Or.inl rfl⟩
theorem mlX2_3 : Cond.methodLink RX2 3 Lib.objectInit ∈ zT := zTi 174 (by decide +kernel) rfl
theorem mlX3_1 : Cond.methodLink RX3 1 Lib.objectInit ∈ zT := zTi 855 (by decide +kernel) rfl
theorem flX3_7 : zFL RX3 7 4 0 400 := ⟨by decide, by decide, rfl, "Remotepane$Key", zTi 856 (by decide +kernel) rfl, Or.inl rfl⟩
theorem flX3_13 : zFL RX3 13 4 1 401 := ⟨by decide, by decide, rfl, "Remotepane$Key", zTi 858 (by decide +kernel) rfl, Or.inl rfl⟩
theorem flX3_17 : zFL RX3 17 4 2 402 := ⟨by decide, by decide, rfl, "Remotepane$Key", zTi 860 (by decide +kernel) rfl, Or.inl rfl⟩
theorem flX3_21 : zFL RX3 21 4 3 403 := ⟨by decide, by decide, rfl, "Remotepane$Key", zTi 862 (by decide +kernel) rfl, Or.inl rfl⟩
theorem flX4_27 : zFL RX4 27 5 5 505 := ⟨by decide, by decide, rfl, "Remotepane$Recording", zTi 967 (by decide +kernel) rfl, Or.inl rfl⟩
theorem flX4_31 : zFL RX4 31 5 6 506 := ⟨by decide, by decide, rfl, "Remotepane$Recording", zTi 969 (by decide +kernel) rfl, Or.inl rfl⟩
theorem flX4_21 : zFL RX4 21 5 3 503 := ⟨by decide, by decide, rfl, "Remotepane$Recording", zTi 964 (by decide +kernel) rfl, Or.inl rfl⟩
theorem mlX4_34 : Cond.methodLink RX4 34 yJ7_fill_53178 ∈ zT := zTi 116 (by decide +kernel) rfl
theorem flX4_18 : zFL RX4 18 5 2 502 := ⟨by decide, by decide, rfl, "Remotepane$Recording", zTi 963 (by decide +kernel) rfl, Or.inl rfl⟩
theorem mlX4_3 : Cond.methodLink RX4 3 Lib.objectInit ∈ zT := zTi 960 (by decide +kernel) rfl
theorem flX4_9 : zFL RX4 9 5 0 500 := ⟨by decide, by decide, rfl, "Remotepane$Recording", zTi 961 (by decide +kernel) rfl, Or.inl rfl⟩
theorem flX4_15 : zFL RX4 15 5 1 501 := ⟨by decide, by decide, rfl, "Remotepane$Recording", zTi 962 (by decide +kernel) rfl, Or.inl rfl⟩
theorem flX4_24 : zFL RX4 24 5 4 504 := ⟨by decide, by decide, rfl, "Remotepane$Recording", zTi 965 (by decide +kernel) rfl, Or.inl rfl⟩
theorem mlX4_44 : Cond.methodLink RX4 44 yX4_play ∈ zT := zTi 112 (by decide +kernel) rfl
theorem flX5_45 : zFL RX5 45 6 7 607 := ⟨by decide, by decide, rfl, "Remotepane$Session", zTi 226 (by decide +kernel) rfl, Or.inl rfl⟩
theorem flX5_11 : zFL RX5 11 6 0 600 := ⟨by decide, by decide, rfl, "Remotepane$Session", zTi 211 (by decide +kernel) rfl, Or.inl rfl⟩
theorem flX5_20 : zFL RX5 20 6 1 601 := ⟨by decide, by decide, rfl, "Remotepane$Session", zTi 213 (by decide +kernel) rfl, Or.inl rfl⟩
theorem mlX5_49 : Cond.methodLink RX5 49 yJx4a65c_add_9ea2d ∈ zT := zTi 445 (by decide +kernel) rfl
theorem mlX5_53 : Cond.methodLink RX5 53 yX5_repaint ∈ zT := zTi 508 (by decide +kernel) rfl
theorem flX5_41 : zFL RX5 41 6 5 605 := ⟨by decide, by decide, rfl, "Remotepane$Session", zTi 222 (by decide +kernel) rfl, Or.inl rfl⟩
theorem flX5_116 : zFL RX5 116 7 2 702 := ⟨by decide, by decide, rfl, "Remotepane$Transfer", zTi 198 (by decide +kernel) rfl, Or.inl rfl⟩
theorem flX5_27 : zFL RX5 27 6 3 603 := ⟨by decide, by decide, rfl, "Remotepane$Session", zTi 218 (by decide +kernel) rfl, Or.inl rfl⟩
theorem mlX5_119 : Cond.methodLink RX5 119 yX6_advance ∈ zT := zTi 710 (by decide +kernel) rfl
theorem flX5_123 : zFL RX5 123 6 8 608 := ⟨by decide, by decide, rfl, "Remotepane$Session", zTi 228 (by decide +kernel) rfl, Or.inl rfl⟩
theorem mlX5_75 : Cond.methodLink RX5 75 yX5_topShownAt ∈ zT := zTi 77 (by decide +kernel) rfl
theorem mlX5_79 : Cond.methodLink RX5 79 yX7_colourAt ∈ zT := zTi 104 (by decide +kernel) rfl
theorem flX5_24 : zFL RX5 24 6 2 602 := ⟨by decide, by decide, rfl, "Remotepane$Session", zTi 215 (by decide +kernel) rfl, Or.inl rfl⟩
theorem mlX5_57 : Cond.methodLink RX5 57 yJx4a65c_size_8abf5 ∈ zT := zTi 81 (by decide +kernel) rfl
theorem mlX5_60 : Cond.methodLink RX5 60 yJx4a65c_get_915e3 ∈ zT := zTi 85 (by decide +kernel) rfl
theorem clX5_100 : Cond.classLink RX5 100 "Remotepane$Key" ∈ zT := zTi 673 (by decide +kernel) rfl
theorem flX5_106 : zFL RX5 106 4 0 400 := ⟨by decide, by decide, rfl, "Remotepane$Key", zTi 857 (by decide +kernel) rfl, Or.inl rfl⟩
theorem flX5_102 : zFL RX5 102 4 1 401 := ⟨by decide, by decide, rfl, "Remotepane$Key", zTi 859 (by decide +kernel) rfl, Or.inl rfl⟩
theorem flX5_126 : zFL RX5 126 8 5 805 := ⟨by decide, by decide, rfl, "Remotepane$Window", zTi 411 (by decide +kernel) rfl, Or.inl rfl⟩
theorem flX5_129 : zFL RX5 129 4 3 403 := ⟨by decide, by decide, rfl, "Remotepane$Key", zTi 864 (by decide +kernel) rfl, Or.inl rfl⟩
theorem mlX5_132 : Cond.methodLink RX5 132 yX7_put ∈ zT := zTi 778 (by decide +kernel) rfl
theorem mlX5_136 : Cond.methodLink RX5 136 yX5_isRight ∈ zT := zTi 786 (by decide +kernel) rfl
theorem mlX5_140 : Cond.methodLink RX5 140 yX1_endGuess ∈ zT := zTi 790 (by decide +kernel) rfl
theorem mlX5_146 : Cond.methodLink RX5 146 yJx4a65c_clear_da8c8 ∈ zT := zTi 794 (by decide +kernel) rfl
theorem mlX5_3 : Cond.methodLink RX5 3 Lib.objectInit ∈ zT := zTi 141 (by decide +kernel) rfl
theorem clX5_9 : Cond.classLink RX5 9 "Remotepane$Window" ∈ zT := zTi 99 (by decide +kernel) rfl
theorem clX5_17 : Cond.classLink RX5 17 "java/util/ArrayList" ∈ zT := zTi 143 (by decide +kernel) rfl
theorem mlX5_19 : Cond.methodLink RX5 19 yJx4a65c_init_da8c8 ∈ zT := zTi 145 (by decide +kernel) rfl
theorem clX5_31 : Cond.classLink RX5 31 "Remotepane$Clipboard" ∈ zT := zTi 169 (by decide +kernel) rfl
theorem mlX5_33 : Cond.methodLink RX5 33 yX2_init ∈ zT := zTi 171 (by decide +kernel) rfl
theorem flX5_34 : zFL RX5 34 6 4 604 := ⟨by decide, by decide, rfl, "Remotepane$Session", zTi 220 (by decide +kernel) rfl, Or.inl rfl⟩
theorem clX5_38 : Cond.classLink RX5 38 "Remotepane$Transfer" ∈ zT := zTi 189 (by decide +kernel) rfl
theorem mlX5_40 : Cond.methodLink RX5 40 yX6_init ∈ zT := zTi 191 (by decide +kernel) rfl
theorem mlX5_83 : Cond.methodLink RX5 83 yX5_colourOfWindows ∈ zT := zTi 73 (by decide +kernel) rfl
theorem flX5_110 : zFL RX5 110 4 2 402 := ⟨by decide, by decide, rfl, "Remotepane$Key", zTi 861 (by decide +kernel) rfl, Or.inl rfl⟩
theorem mlX5_113 : Cond.methodLink RX5 113 yX7_placeOf ∈ zT := zTi 674 (by decide +kernel) rfl
theorem mlX5_87 : Cond.methodLink RX5 87 yX5_isPainted ∈ zT := zTi 69 (by decide +kernel) rfl
theorem flX5_91 : zFL RX5 91 6 6 606 := ⟨by decide, by decide, rfl, "Remotepane$Session", zTi 224 (by decide +kernel) rfl, Or.inl rfl⟩
theorem mlX5_95 : Cond.methodLink RX5 95 yX4_isAsLookedAt ∈ zT := zTi 108 (by decide +kernel) rfl
theorem mlX5_149 : Cond.methodLink RX5 149 yX4_isFull ∈ zT := zTi 802 (by decide +kernel) rfl
theorem flX5_152 : zFL RX5 152 8 7 807 := ⟨by decide, by decide, rfl, "Remotepane$Window", zTi 416 (by decide +kernel) rfl, Or.inl rfl⟩
theorem mlX5_155 : Cond.methodLink RX5 155 yX4_look ∈ zT := zTi 806 (by decide +kernel) rfl
theorem mlX5_159 : Cond.methodLink RX5 159 yX4_endTick ∈ zT := zTi 810 (by decide +kernel) rfl
theorem mlX5_64 : Cond.methodLink RX5 64 yJx4a65c_remove_915e3 ∈ zT := zTi 1018 (by decide +kernel) rfl
theorem flX5_67 : zFL RX5 67 8 6 806 := ⟨by decide, by decide, rfl, "Remotepane$Window", zTi 414 (by decide +kernel) rfl, Or.inl rfl⟩
theorem mlX5_71 : Cond.methodLink RX5 71 yX7_covers ∈ zT := zTi 100 (by decide +kernel) rfl
theorem mlX6_27 : Cond.methodLink RX6 27 yX6_countRowsLeft ∈ zT := zTi 714 (by decide +kernel) rfl
theorem flX6_19 : zFL RX6 19 7 2 702 := ⟨by decide, by decide, rfl, "Remotepane$Transfer", zTi 197 (by decide +kernel) rfl, Or.inl rfl⟩
theorem flX6_31 : zFL RX6 31 7 3 703 := ⟨by decide, by decide, rfl, "Remotepane$Transfer", zTi 200 (by decide +kernel) rfl, Or.inl rfl⟩
theorem mlX6_35 : Cond.methodLink RX6 35 yX6_nextRow ∈ zT := zTi 722 (by decide +kernel) rfl
theorem flX6_15 : zFL RX6 15 7 1 701 := ⟨by decide, by decide, rfl, "Remotepane$Transfer", zTi 196 (by decide +kernel) rfl, Or.inl rfl⟩
theorem flX6_9 : zFL RX6 9 7 0 700 := ⟨by decide, by decide, rfl, "Remotepane$Transfer", zTi 195 (by decide +kernel) rfl, Or.inl rfl⟩
theorem mlX6_38 : Cond.methodLink RX6 38 arraycopyName ∈ zT := zTi 726 (by decide +kernel) rfl
theorem mlX6_23 : Cond.methodLink RX6 23 yX6_isOther ∈ zT := zTi 718 (by decide +kernel) rfl
theorem mlX6_3 : Cond.methodLink RX6 3 Lib.objectInit ∈ zT := zTi 194 (by decide +kernel) rfl
theorem flX7_41 : zFL RX7 41 8 9 809 := ⟨by decide, by decide, rfl, "Remotepane$Window", zTi 419 (by decide +kernel) rfl, Or.inl rfl⟩
theorem flX7_24 : zFL RX7 24 8 2 802 := ⟨by decide, by decide, rfl, "Remotepane$Window", zTi 404 (by decide +kernel) rfl, Or.inl rfl⟩
theorem flX7_15 : zFL RX7 15 8 4 804 := ⟨by decide, by decide, rfl, "Remotepane$Window", zTi 407 (by decide +kernel) rfl, Or.inl rfl⟩
theorem flX7_18 : zFL RX7 18 8 0 800 := ⟨by decide, by decide, rfl, "Remotepane$Window", zTi 402 (by decide +kernel) rfl, Or.inl rfl⟩
theorem flX7_9 : zFL RX7 9 8 3 803 := ⟨by decide, by decide, rfl, "Remotepane$Window", zTi 405 (by decide +kernel) rfl, Or.inl rfl⟩
theorem flX7_21 : zFL RX7 21 8 1 801 := ⟨by decide, by decide, rfl, "Remotepane$Window", zTi 403 (by decide +kernel) rfl, Or.inl rfl⟩
theorem mlX7_35 : Cond.methodLink RX7 35 Lib.Math.min.name ∈ zT := zTi 541 (by decide +kernel) rfl
theorem mlX7_3 : Cond.methodLink RX7 3 Lib.objectInit ∈ zT := zTi 401 (by decide +kernel) rfl
theorem flX7_28 : zFL RX7 28 8 5 805 := ⟨by decide, by decide, rfl, "Remotepane$Window", zTi 409 (by decide +kernel) rfl, Or.inl rfl⟩
theorem flX7_32 : zFL RX7 32 8 6 806 := ⟨by decide, by decide, rfl, "Remotepane$Window", zTi 412 (by decide +kernel) rfl, Or.inl rfl⟩
theorem flX7_48 : zFL RX7 48 8 8 808 := ⟨by decide, by decide, rfl, "Remotepane$Window", zTi 417 (by decide +kernel) rfl, Or.inl rfl⟩
theorem mlX7_51 : Cond.methodLink RX7 51 yX7_cellAhead ∈ zT := zTi 782 (by decide +kernel) rfl
theorem mlX8_241 : Cond.methodLink RX8 241 yX8_isSession ∈ zT := zTi 356 (by decide +kernel) rfl
theorem clX8_245 : Cond.classLink RX8 245 "java/lang/IndexOutOfBoundsException" ∈ zT := zTi 360 (by decide +kernel) rfl
theorem mlX8_116 : Cond.methodLink RX8 116 yX8_isWithin ∈ zT := zTi 122 (by decide +kernel) rfl
theorem clX8_48 : Cond.classLink RX8 48 "java/lang/IllegalArgumentException" ∈ zT := zTi 379 (by decide +kernel) rfl
theorem mlX8_252 : Cond.methodLink RX8 252 yX8_rightNumber ∈ zT := zTi 927 (by decide +kernel) rfl
theorem flX8_21 : zFL RX8 21 9 2 902 := ⟨by decide, by decide, rfl, "Remotepane", zTi 45 (by decide +kernel) rfl, Or.inl rfl⟩
theorem mlX8_139 : Cond.methodLink RX8 139 yX8_clientAt ∈ zT := zTi 643 (by decide +kernel) rfl
theorem mlX8_163 : Cond.methodLink RX8 163 yX1_countBehind ∈ zT := zTi 686 (by decide +kernel) rfl
theorem flX8_143 : zFL RX8 143 2 3 203 := ⟨by decide, by decide, rfl, "Remotepane$Client", zTi 616 (by decide +kernel) rfl, Or.inl rfl⟩
theorem flX8_272 : zFL RX8 272 3 2 302 := ⟨by decide, by decide, rfl, "Remotepane$Clipboard", zTi 180 (by decide +kernel) rfl, Or.inl rfl⟩
theorem flX8_269 : zFL RX8 269 3 1 301 := ⟨by decide, by decide, rfl, "Remotepane$Clipboard", zTi 178 (by decide +kernel) rfl, Or.inl rfl⟩
theorem flX8_25 : zFL RX8 25 9 3 903 := ⟨by decide, by decide, rfl, "Remotepane", zTi 46 (by decide +kernel) rfl, Or.inl rfl⟩
theorem flX8_17 : zFL RX8 17 9 1 901 := ⟨by decide, by decide, rfl, "Remotepane", zTi 44 (by decide +kernel) rfl, Or.inl rfl⟩
theorem mlX8_37 : Cond.methodLink RX8 37 yX8_sessionAt ∈ zT := zTi 352 (by decide +kernel) rfl
theorem mlX8_68 : Cond.methodLink RX8 68 yX8_windowAt ∈ zT := zTi 521 (by decide +kernel) rfl
theorem flX8_72 : zFL RX8 72 8 5 805 := ⟨by decide, by decide, rfl, "Remotepane$Window", zTi 410 (by decide +kernel) rfl, Or.inl rfl⟩
theorem mlX8_76 : Cond.methodLink RX8 76 yX5_takeFromPile ∈ zT := zTi 1014 (by decide +kernel) rfl
theorem mlX8_80 : Cond.methodLink RX8 80 yX5_repaint ∈ zT := zTi 526 (by decide +kernel) rfl
theorem flX8_84 : zFL RX8 84 8 6 806 := ⟨by decide, by decide, rfl, "Remotepane$Window", zTi 413 (by decide +kernel) rfl, Or.inl rfl⟩
theorem flX8_228 : zFL RX8 228 6 4 604 := ⟨by decide, by decide, rfl, "Remotepane$Session", zTi 221 (by decide +kernel) rfl, Or.inl rfl⟩
theorem flX8_232 : zFL RX8 232 3 0 300 := ⟨by decide, by decide, rfl, "Remotepane$Clipboard", zTi 176 (by decide +kernel) rfl, Or.inl rfl⟩
theorem mlX8_237 : Cond.methodLink RX8 237 yX2_hold ∈ zT := zTi 894 (by decide +kernel) rfl
theorem mlX8_113 : Cond.methodLink RX8 113 yX8_isScreenCell ∈ zT := zTi 534 (by decide +kernel) rfl
theorem mlX8_45 : Cond.methodLink RX8 45 yX8_isSize ∈ zT := zTi 376 (by decide +kernel) rfl
theorem mlX8_120 : Cond.methodLink RX8 120 yX7_fillPart ∈ zT := zTi 537 (by decide +kernel) rfl
theorem flX8_150 : zFL RX8 150 2 0 200 := ⟨by decide, by decide, rfl, "Remotepane$Client", zTi 610 (by decide +kernel) rfl, Or.inl rfl⟩
theorem mlX8_213 : Cond.methodLink RX8 213 yX5_countKeysBy ∈ zT := zTi 883 (by decide +kernel) rfl
theorem flX8_275 : zFL RX8 275 6 5 605 := ⟨by decide, by decide, rfl, "Remotepane$Session", zTi 223 (by decide +kernel) rfl, Or.inl rfl⟩
theorem flX8_289 : zFL RX8 289 7 3 703 := ⟨by decide, by decide, rfl, "Remotepane$Transfer", zTi 201 (by decide +kernel) rfl, Or.inl rfl⟩
theorem mlX8_1 : Cond.methodLink RX8 1 Lib.objectInit ∈ zT := zTi 36 (by decide +kernel) rfl
theorem clX8_9 : Cond.classLink RX8 9 "Remotepane$Session" ∈ zT := zTi 39 (by decide +kernel) rfl
theorem flX8_11 : zFL RX8 11 9 0 900 := ⟨by decide, by decide, rfl, "Remotepane", zTi 43 (by decide +kernel) rfl, Or.inl rfl⟩
theorem clX8_15 : Cond.classLink RX8 15 "Remotepane$Client" ∈ zT := zTi 41 (by decide +kernel) rfl
theorem mlX8_325 : Cond.methodLink RX8 325 yX5_isTrue ∈ zT := zTi 65 (by decide +kernel) rfl
theorem flX8_146 : zFL RX8 146 2 4 204 := ⟨by decide, by decide, rfl, "Remotepane$Client", zTi 617 (by decide +kernel) rfl, Or.inl rfl⟩
theorem mlX8_134 : Cond.methodLink RX8 134 yX1_init ∈ zT := zTi 562 (by decide +kernel) rfl
theorem clX8_30 : Cond.classLink RX8 30 "java/lang/IllegalStateException" ∈ zT := zTi 248 (by decide +kernel) rfl
theorem flX8_279 : zFL RX8 279 7 2 702 := ⟨by decide, by decide, rfl, "Remotepane$Transfer", zTi 199 (by decide +kernel) rfl, Or.inl rfl⟩
theorem flX8_124 : zFL RX8 124 6 3 603 := ⟨by decide, by decide, rfl, "Remotepane$Session", zTi 219 (by decide +kernel) rfl, Or.inl rfl⟩
theorem mlX8_294 : Cond.methodLink RX8 294 yX6_countRowsLeft ∈ zT := zTi 940 (by decide +kernel) rfl
theorem flX8_107 : zFL RX8 107 8 7 807 := ⟨by decide, by decide, rfl, "Remotepane$Window", zTi 415 (by decide +kernel) rfl, Or.inl rfl⟩
theorem flX8_110 : zFL RX8 110 8 8 808 := ⟨by decide, by decide, rfl, "Remotepane$Window", zTi 418 (by decide +kernel) rfl, Or.inl rfl⟩
theorem mlX8_286 : Cond.methodLink RX8 286 yX6_begin ∈ zT := zTi 1053 (by decide +kernel) rfl
theorem mlX8_41 : Cond.methodLink RX8 41 yX8_isWindowPlace ∈ zT := zTi 373 (by decide +kernel) rfl
theorem flX8_87 : zFL RX8 87 8 3 803 := ⟨by decide, by decide, rfl, "Remotepane$Window", zTi 406 (by decide +kernel) rfl, Or.inl rfl⟩
theorem flX8_90 : zFL RX8 90 8 4 804 := ⟨by decide, by decide, rfl, "Remotepane$Window", zTi 408 (by decide +kernel) rfl, Or.inl rfl⟩
theorem mlX8_166 : Cond.methodLink RX8 166 yX8_nextChange ∈ zT := zTi 1067 (by decide +kernel) rfl
theorem flX8_170 : zFL RX8 170 1 4 104 := ⟨by decide, by decide, rfl, "Remotepane$Change", zTi 578 (by decide +kernel) rfl, Or.inl rfl⟩
theorem flX8_341 : zFL RX8 341 2 2 202 := ⟨by decide, by decide, rfl, "Remotepane$Client", zTi 614 (by decide +kernel) rfl, Or.inl rfl⟩
theorem mlX8_345 : Cond.methodLink RX8 345 yX0_find ∈ zT := zTi 732 (by decide +kernel) rfl
theorem clX8_258 : Cond.classLink RX8 258 "java/util/NoSuchElementException" ∈ zT := zTi 907 (by decide +kernel) rfl
theorem flX8_176 : zFL RX8 176 1 5 105 := ⟨by decide, by decide, rfl, "Remotepane$Change", zTi 580 (by decide +kernel) rfl, Or.inl rfl⟩
theorem flX8_298 : zFL RX8 298 6 6 606 := ⟨by decide, by decide, rfl, "Remotepane$Session", zTi 225 (by decide +kernel) rfl, Or.inl rfl⟩
theorem flX8_320 : zFL RX8 320 5 6 506 := ⟨by decide, by decide, rfl, "Remotepane$Recording", zTi 970 (by decide +kernel) rfl, Or.inl rfl⟩
theorem mlX8_29 : Cond.methodLink RX8 29 yX5_init ∈ zT := zTi 138 (by decide +kernel) rfl
theorem flX8_53 : zFL RX8 53 6 7 607 := ⟨by decide, by decide, rfl, "Remotepane$Session", zTi 227 (by decide +kernel) rfl, Or.inl rfl⟩
theorem clX8_59 : Cond.classLink RX8 59 "Remotepane$Window" ∈ zT := zTi 396 (by decide +kernel) rfl
theorem mlX8_61 : Cond.methodLink RX8 61 yX7_init ∈ zT := zTi 398 (by decide +kernel) rfl
theorem mlX8_64 : Cond.methodLink RX8 64 yX5_addWindow ∈ zT := zTi 441 (by decide +kernel) rfl
theorem mlX8_350 : Cond.methodLink RX8 350 yX5_advanceMove ∈ zT := zTi 706 (by decide +kernel) rfl
theorem mlX8_353 : Cond.methodLink RX8 353 yX8_runLine ∈ zT := zTi 727 (by decide +kernel) rfl
theorem mlX8_356 : Cond.methodLink RX8 356 yX5_doKeys ∈ zT := zTi 774 (by decide +kernel) rfl
theorem mlX8_359 : Cond.methodLink RX8 359 yX5_lookForRecording ∈ zT := zTi 798 (by decide +kernel) rfl
theorem mlX8_263 : Cond.methodLink RX8 263 yX8_canPass ∈ zT := zTi 923 (by decide +kernel) rfl
theorem clX8_190 : Cond.classLink RX8 190 "java/lang/UnsupportedOperationException" ∈ zT := zTi 827 (by decide +kernel) rfl
theorem flX8_149 : zFL RX8 149 2 1 201 := ⟨by decide, by decide, rfl, "Remotepane$Client", zTi 612 (by decide +kernel) rfl, Or.inl rfl⟩
theorem mlX8_128 : Cond.methodLink RX8 128 yX8_screenCell ∈ zT := zTi 549 (by decide +kernel) rfl
theorem flX8_305 : zFL RX8 305 5 5 505 := ⟨by decide, by decide, rfl, "Remotepane$Recording", zTi 968 (by decide +kernel) rfl, Or.inl rfl⟩
theorem mlX8_311 : Cond.methodLink RX8 311 yX4_play ∈ zT := zTi 998 (by decide +kernel) rfl
theorem flX8_315 : zFL RX8 315 5 4 504 := ⟨by decide, by decide, rfl, "Remotepane$Recording", zTi 966 (by decide +kernel) rfl, Or.inl rfl⟩
theorem mlX8_93 : Cond.methodLink RX8 93 yX5_isOnTop ∈ zT := zTi 1031 (by decide +kernel) rfl
theorem flX8_97 : zFL RX8 97 6 1 601 := ⟨by decide, by decide, rfl, "Remotepane$Session", zTi 214 (by decide +kernel) rfl, Or.inl rfl⟩
theorem mlX8_101 : Cond.methodLink RX8 101 yJx4a65c_add_9ea2d ∈ zT := zTi 874 (by decide +kernel) rfl
theorem clX8_302 : Cond.classLink RX8 302 "Remotepane$Recording" ∈ zT := zTi 955 (by decide +kernel) rfl
theorem mlX8_304 : Cond.methodLink RX8 304 yX4_init ∈ zT := zTi 957 (by decide +kernel) rfl
theorem mlX8_308 : Cond.methodLink RX8 308 yX4_begin ∈ zT := zTi 986 (by decide +kernel) rfl
theorem mlX8_362 : Cond.methodLink RX8 362 Lib.Math.min.name ∈ zT := zTi 731 (by decide +kernel) rfl
theorem mlX8_367 : Cond.methodLink RX8 367 yX8_richestServed ∈ zT := zTi 760 (by decide +kernel) rfl
theorem mlX8_370 : Cond.methodLink RX8 370 Lib.Math.max.name ∈ zT := zTi 764 (by decide +kernel) rfl
theorem mlX8_373 : Cond.methodLink RX8 373 yX0_apply ∈ zT := zTi 765 (by decide +kernel) rfl
theorem mlX8_154 : Cond.methodLink RX8 154 yX5_lastGuessAt ∈ zT := zTi 669 (by decide +kernel) rfl
theorem flX8_158 : zFL RX8 158 4 3 403 := ⟨by decide, by decide, rfl, "Remotepane$Key", zTi 863 (by decide +kernel) rfl, Or.inl rfl⟩
theorem mlX8_181 : Cond.methodLink RX8 181 yX8_passTick ∈ zT := zTi 702 (by decide +kernel) rfl
theorem mlX8_186 : Cond.methodLink RX8 186 yX5_topShown ∈ zT := zTi 823 (by decide +kernel) rfl
theorem flX8_195 : zFL RX8 195 6 2 602 := ⟨by decide, by decide, rfl, "Remotepane$Session", zTi 216 (by decide +kernel) rfl, Or.inl rfl⟩
theorem mlX8_198 : Cond.methodLink RX8 198 yJx4a65c_size_8abf5 ∈ zT := zTi 843 (by decide +kernel) rfl
theorem mlX8_203 : Cond.methodLink RX8 203 yX5_countKeysOf ∈ zT := zTi 845 (by decide +kernel) rfl
theorem mlX8_206 : Cond.methodLink RX8 206 yX7_cellAhead ∈ zT := zTi 849 (by decide +kernel) rfl
theorem clX8_159 : Cond.classLink RX8 159 "Remotepane$Key" ∈ zT := zTi 850 (by decide +kernel) rfl
theorem mlX8_210 : Cond.methodLink RX8 210 yX3_init ∈ zT := zTi 852 (by decide +kernel) rfl
theorem flX8_333 : zFL RX8 333 6 0 600 := ⟨by decide, by decide, rfl, "Remotepane$Session", zTi 212 (by decide +kernel) rfl, Or.inl rfl⟩
theorem tw_ovS : "Remotepane$Session" ∈ zOv := by decide +kernel
theorem tw_ovC : "Remotepane$Client" ∈ zOv := by decide +kernel
theorem tw_ovW : "Remotepane$Window" ∈ zOv := by decide +kernel
theorem tw_ovO : "java/lang/Object" ∈ zOv := by decide +kernel
theorem mlJxa1e45_1 : Cond.methodLink RJxa1e45 1 Lib.objectInit ∈ zT := zTm (by decide +kernel) rfl
theorem flJxc12de_7 : zFL RJxc12de 7 0 0 0 := ⟨by decide, by decide, rfl, "java/util/AbstractList", zTm (by decide +kernel) rfl, Or.inl rfl⟩
theorem flJx4a65c_63 : zFL RJx4a65c 63 0 0 0 := ⟨by decide, by decide, rfl, "java/util/ArrayList", zTi 160 (by decide +kernel) rfl, Or.inr (zTi 161 (by decide +kernel) rfl)⟩
theorem flJx4a65c_9 : zFL RJx4a65c 9 0 1 1 := ⟨by decide, by decide, rfl, "java/util/ArrayList", zTi 157 (by decide +kernel) rfl, Or.inl rfl⟩
theorem flJx4a65c_48 : zFL RJx4a65c 48 0 2 2 := ⟨by decide, by decide, rfl, "java/util/ArrayList", zTi 158 (by decide +kernel) rfl, Or.inl rfl⟩
theorem mlJx4a65c_131 : Cond.methodLink RJx4a65c 131 yJx4a65c_add_72be8 ∈ zT := zTi 449 (by decide +kernel) rfl
theorem mlJx4a65c_129 : Cond.methodLink RJx4a65c 129 yJx4a65c_grow_d5877 ∈ zT := zTi 453 (by decide +kernel) rfl
theorem mlJx4a65c_69 : Cond.methodLink RJx4a65c 69 yJx4a65c_grow_92f84 ∈ zT := zTi 457 (by decide +kernel) rfl
theorem mlJx4a65c_73 : Cond.methodLink RJx4a65c 73 yJ8_newLength_cabcc ∈ zT := zTi 461 (by decide +kernel) rfl
theorem mlJx4a65c_66 : Cond.methodLink RJx4a65c 66 yJ7_copyOf_1904c ∈ zT := zTi 471 (by decide +kernel) rfl
theorem mlJx4a65c_118 : Cond.methodLink RJx4a65c 118 yJ15_checkIndex_7cf53 ∈ zT := zTi 89 (by decide +kernel) rfl
theorem mlJx4a65c_123 : Cond.methodLink RJx4a65c 123 yJx4a65c_elementData_915e3 ∈ zT := zTi 95 (by decide +kernel) rfl
theorem mlJx4a65c_144 : Cond.methodLink RJx4a65c 144 yJx4a65c_fastRemove_b59b0 ∈ zT := zTi 1022 (by decide +kernel) rfl
theorem mlJ15_105 : Cond.methodLink RJ15 105 yJ3_checkIndex_8e157 ∈ zT := zTi 92 (by decide +kernel) rfl
theorem mlJ7_300 : Cond.methodLink RJ7 300 yJ7_copyOf_6403c ∈ zT := zTi 494 (by decide +kernel) rfl
theorem mlJx4a65c_1 : Cond.methodLink RJx4a65c 1 yJxc12de_init_da8c8 ∈ zT := zTi 148 (by decide +kernel) rfl
theorem mlJxc12de_1 : Cond.methodLink RJxc12de 1 yJxa1e45_init_da8c8 ∈ zT := zTi 151 (by decide +kernel) rfl
theorem mlJ0_492 : Cond.methodLink RJ0 492 yJ0_isLatin1_aae02 ∈ zT := zTi 1083 (by decide +kernel) rfl
theorem mlJ0_495 : Cond.methodLink RJ0 495 yJ1_charAt_3b067 ∈ zT := zTi 1089 (by decide +kernel) rfl
theorem mlJ1_9 : Cond.methodLink RJ1 9 yJ0_checkIndex_df160 ∈ zT := zTi 1092 (by decide +kernel) rfl
theorem mlJ0_1059 : Cond.methodLink RJ0 1059 yJ3_checkIndex_8e157 ∈ zT := zTi 1097 (by decide +kernel) rfl
theorem fwJ0_38 : Cond.fieldLink RJ0 38 "java/lang/String" "COMPACT_STRINGS" "Z" ∈ zT := zTi 1087 (by decide +kernel) rfl
theorem fwJ0_15 : Cond.fieldLink RJ0 15 "java/lang/String" "coder" "B" ∈ zT := zTi 1148 (by decide +kernel) rfl
theorem fwJ0_9 : Cond.fieldLink RJ0 9 "java/lang/String" "value" "[B" ∈ zT := zTi 1149 (by decide +kernel) rfl
theorem fwJ0_1053 : Cond.fieldLink RJ0 1053 "jdk/internal/util/Preconditions" "SIOOBE_FORMATTER" "Ljava/util/function/BiFunction;" ∈ zT := zTi 1095 (by decide +kernel) rfl
theorem tw_arrInt : Cond.arrayClass .int ∈ zT := zTm (by decide +kernel) rfl
theorem tw_arrBool : Cond.arrayClass .boolean ∈ zT := zTm (by decide +kernel) rfl
theorem tw_acN : Cond.native arraycopyName ∈ zT := zTm (by decide +kernel) rfl
theorem tw_acS : Cond.static arraycopyName ∈ zT := zTm (by decide +kernel) rfl
theorem tw_acI : Cond.initialized "java/lang/System" ∈ zT := zTm (by decide +kernel) rfl
theorem tw_oiI : Cond.instanceMethod Lib.objectInit ∈ zT := zTm (by decide +kernel) rfl
theorem tw_oiC : Cond.code Lib.objectInit ⟨#[0xb1]⟩ 1 none ∈ zT := zTm (by decide +kernel) rfl
theorem tw_mxS : Cond.static Lib.Math.max.name ∈ zT := zTm (by decide +kernel) rfl
theorem tw_mxC : Cond.code Lib.Math.max.name Lib.Math.max.code 2 (some .int) ∈ zT := zTm (by decide +kernel) rfl
theorem tw_mnS : Cond.static Lib.Math.min.name ∈ zT := zTm (by decide +kernel) rfl
theorem tw_mnC : Cond.code Lib.Math.min.name Lib.Math.min.code 2 (some .int) ∈ zT := zTm (by decide +kernel) rfl
theorem tw_maI : Cond.initialized "java/lang/Math" ∈ zT := zTm (by decide +kernel) rfl
theorem tw_alI : Cond.initialized RJx4a65c ∈ zT := zTm (by decide +kernel) rfl
theorem tw_alN : Cond.instantiable RJx4a65c 3 ∈ zT := zTm (by decide +kernel) rfl
theorem tn_X0 : Cond.instantiable RX0 11 ∈ zT ∧ Cond.initialized RX0 ∈ zT := ⟨zTi 567 (by decide +kernel) rfl, zTi 17 (by decide +kernel) rfl⟩
theorem tn_X1 : Cond.instantiable RX1 7 ∈ zT ∧ Cond.initialized RX1 ∈ zT := ⟨zTi 561 (by decide +kernel) rfl, zTi 16 (by decide +kernel) rfl⟩
theorem tn_X2 : Cond.instantiable RX2 3 ∈ zT ∧ Cond.initialized RX2 ∈ zT := ⟨zTi 170 (by decide +kernel) rfl, zTi 6 (by decide +kernel) rfl⟩
theorem tn_X3 : Cond.instantiable RX3 4 ∈ zT ∧ Cond.initialized RX3 ∈ zT := ⟨zTi 851 (by decide +kernel) rfl, zTi 28 (by decide +kernel) rfl⟩
theorem tn_X4 : Cond.instantiable RX4 7 ∈ zT ∧ Cond.initialized RX4 ∈ zT := ⟨zTi 956 (by decide +kernel) rfl, zTi 29 (by decide +kernel) rfl⟩
theorem tn_X5 : Cond.instantiable RX5 9 ∈ zT ∧ Cond.initialized RX5 ∈ zT := ⟨zTi 137 (by decide +kernel) rfl, zTi 2 (by decide +kernel) rfl⟩
theorem tn_X6 : Cond.instantiable RX6 4 ∈ zT ∧ Cond.initialized RX6 ∈ zT := ⟨zTi 190 (by decide +kernel) rfl, zTi 7 (by decide +kernel) rfl⟩
theorem tn_X7 : Cond.instantiable RX7 10 ∈ zT ∧ Cond.initialized RX7 ∈ zT := ⟨zTi 397 (by decide +kernel) rfl, zTi 18 (by decide +kernel) rfl⟩
theorem tn_X8 : Cond.instantiable RX8 4 ∈ zT ∧ Cond.initialized RX8 ∈ zT := ⟨zTi 32 (by decide +kernel) rfl, zTi 1 (by decide +kernel) rfl⟩
end
section
/-! calls that hand the script on; deeper stacks; longs in locals; shifts -/
theorem zcat_rest1 {ad : Nat → Nat} {rest : List zV} (h1 : rest.all z1 = true) (hr : rest.length ≤ 8) : ((rest.map (zc ad)).map fun v => v.category).sum ≤ 8 := by
  have h2 : ∀ vs : List zV, vs.all z1 = true → ((vs.map (zc ad)).map fun v => v.category).sum = vs.length := by
    intro vs
    induction vs with
    | nil => intro _; rfl
    | cons v vs ih =>
      intro h
      rw [List.all_cons, Bool.and_eq_true] at h
      rw [List.map_cons, List.map_cons, List.sum_cons, ih h.2, z1_cat h.1, List.length_cons]
      omega
  rw [h2 rest h1]
  exact hr
/-- a contract of a method that holds the script -/
def zCY (l : Launch) (Y : zM) (As : List zV) (h : zH) (Q : zO → zH → Prop) : Prop :=
  ∀ (D : va_G) (dA : Nat → ClassId) (ad : Nat → Nat) (sz : Nat), vx_Met l (zMy Y) (zWs Y) (zMr Y) (va_Pc (As.map (zc ad)) (fun U => zB D dA ad sz As h U ∧ zScr Y U (zA ad h sz) (ad 1))) (zQc D dA ad h Q (zA ad h sz)) (zXc D dA ad h Q (zA ad h sz)) (zMr Y).cells (zMr Y).slots (zA ad h sz)
theorem zCY_of {l : Launch} {Y : zM} {As ls : List zV} {h : zH} {Q : zO → zH → Prop} (hl : l.stackTraces = false) (hh : zMh Y = []) (hy : plainName (zMy Y).cls = true) (hls : As ++ List.replicate (zMn Y - As.length) zX = ls) (h1 : As.all z1 = true) (hlen : As.length ≤ zMn Y) (K : AW l Y Q 0 0 0 ls [] h) : zCY l Y As h Q := by
  intro D dA ad sz
  refine vx_ofW (cc := zMc Y) (maxL := zMn Y) (ret := zMt Y) hy rfl ?_
  intro p e s m args below meth c s₁ B hml hex hv
  obtain ⟨ha, ⟨hsz, hP, hTK, hS0, hstr, hoks⟩, hY⟩ := hv
  subst ha
  have hts0 : ∀ w ∈ zWs Y, w.before (As.map (zc ad)).toArray s = true := atoms_spec (ws := zWs Y) B.pre
  have hlv := lv_entry (As.map (zc ad)) (n := zMn Y) (by rw [zsl_len h1]; exact hlen)
  have hex2 : c.exceptionTable.toList = [] := by
    cases hx : c.exceptionTable.toList with
    | nil => rfl
    | cons x xs => exact (hex x (by rw [hx]; exact List.mem_cons_self)).elim
  rw [lg_entry_eq]
  refine K p e s m _ below meth c D dA ad h (zA ad h sz) ⟨B.exec, B.bytes, B.returns, hml, findClass_of_methodNamed B.named, fun w hw => hts0 w (List.mem_cons_of_mem _ hw), B.notSynchronized, (name_of_methodNamed B.named B.method).1, by rw [hex2, hh]; rfl, hTK, hS0, hstr, fun q hq => Or.inr (by rw [← hsz]; exact hq), hl, hY⟩ s.heap [] ad _ hP zE_rf va_S.rf ⟨hlv.1, hlv.2.1, fun i v hi hv => ?_⟩ ?_ (fun v hv => by cases hv)
  · subst hls
    by_cases hlt : i < As.length
    · rw [List.getElem?_append_left hlt] at hi
      have := hlv.2.2 _ (zargs_mem (ad := ad) (j := 0) h1 hi)
      rw [Nat.zero_add] at this
      exact this
    · rw [List.getElem?_append_right (by omega)] at hi
      exact absurd (List.mem_replicate.mp (List.mem_of_getElem? hi)).2 hv
  · intro v hv
    subst hls
    rcases List.mem_append.mp hv with hv | hv
    · exact hoks v hv
    · rw [(List.mem_replicate.mp hv).2]
      trivial
theorem zScr_moved {Y : zM} {s U : State} {A : Nat → Prop} {e1 : Nat} (hvm : s.vm.Alike U.vm) (hh : U.heap = s.heap) (h : zScr Y s A e1) : zScr Y U A e1 := by
  unfold zScr at h ⊢
  cases hm : zMs Y with
  | none => trivial
  | some q =>
    rw [hm] at h
    obtain ⟨hX, hbl, hbA, hL2⟩ := h
    show va_X e1 q.1 q.2 U U.heap ∧ e1 < U.heap.size ∧ ¬ A e1 ∧ q.1 < 2147483648
    rw [hh]
    exact ⟨va_X.moved hvm hX, hbl, hbA, hL2⟩
theorem zBY_blind {Y : zM} {D : va_G} {dA : Nat → ClassId} {ad : Nat → Nat} {sz : Nat} {As : List zV} {h : zH} {av : List Value} : FrameBlind (va_Pc av (fun U => zB D dA ad sz As h U ∧ zScr Y U (zA ad h sz) (ad 1))) := by
  intro a U g mk hp
  obtain ⟨h1, hB, hY⟩ := hp
  have h2 := zB_blind (av := av) a U g mk ⟨h1, hB⟩
  exact ⟨h2.1, h2.2, zScr_moved (U := U.calling g mk a) (Vm.Alike.refl U.vm) rfl hY⟩
theorem zScr_for {l : Launch} {Y Yc : zM} {p : Program} {s U : State} {m : MethodId} {args : Array Value} {meth : Method} {c : Code} {D : va_G} {dA : Nat → ClassId} {ad0 ad : Nat → Nat} {h0 h : zH} {A : Nat → Prop} {H : Heap} {locs : List Loc} (C : zCX l Y p s m args meth c dA A (ad0 0) (ad0 1)) (hP : zP s D dA A ad h H) (hE : zE h0 ad0 h ad) (hS : va_S A s.heap H locs) (hU : U.heap = H) (hW : s.WarmedH U.vm) (e : zMs Yc = zMs Y) : zScr Yc U (zA ad h H.size) (ad 1) := by
  have hA := zA_sub (sz := H.size) hP (fun q hq => C.2.2.2.2.2.2.2.2.2.2.2.2.1 q (Nat.le_trans hS.1 hq))
  have hsc := C.2.2.2.2.2.2.2.2.2.2.2.2.2.2
  unfold zScr at hsc ⊢
  rw [e]
  cases hm : zMs Y with
  | none => trivial
  | some q =>
    rw [hm] at hsc
    obtain ⟨hX, hbl, hbA, hL2⟩ := hsc
    have e1 : ad 1 = ad0 1 := hE.1 1 (Or.inl (Nat.le_refl 1))
    show va_X (ad 1) q.1 q.2 U U.heap ∧ ad 1 < U.heap.size ∧ ¬ zA ad h H.size (ad 1) ∧ q.1 < 2147483648
    rw [e1, hU]
    exact ⟨va_X.moved hW.alike (va_X.kept hX (hS.2.1 _ hbl hbA)), Nat.lt_of_lt_of_le hbl hS.1, fun z => hbA (hA _ z), hL2⟩
/-- a call that hands the script on, over any stack -/
theorem w_callSY {l : Launch} {Y Yc : zM} {Qc : zO → zH → Prop} {k n pc : Nat} {ls As : List zV} {h : zH} {idx : Nat} {p : Program} {e : Env} {s : State} {m : MethodId} {args : Array Value} {below : List Frame} {meth : Method} {c : Code} {D : va_G} {dA : Nat → ClassId} {ad0 ad : Nat → Nat} {h0 : zH} {A : Nat → Prop} {H : Heap} {locs : List Loc} {lm : Array Slot} {restV : List Value} {QQ : State → Prop} (C : zCX l Y p s m args meth c dA A (ad0 0) (ad0 1)) (hP : zP s D dA A ad h H) (hE : zE h0 ad0 h ad) (hS : va_S A s.heap H locs) (hL : zLO ad ls lm (zMn Y)) (d : decode (zMc Y) pc = .ok (.invokestatic idx, 3)) (M : zMok Yc As.length) (V : Cond.static (zMy Yc) ∈ zT) (hl : Cond.methodLink (zMy Y).cls idx (zMy Yc) ∈ zT) (eY : zMs Yc = zMs Y) (oA : ∀ v ∈ As, zokv h v) (hr : (restV.map fun v => v.category).sum ≤ 8) (hf : zFits Y Yc k n) (hc : zCY l Yc As h Qc)
    (kx : ∀ E h1, ¬ Qc (.inr E) h1) (kk : ∀ (v : Option zV) (h1 : zH) (ad1 : Nat → Nat) (H1 : Heap) (locs1 : List Loc), Qc (.inl v) h1 → zP s D dA A ad1 h1 H1 → zE h ad h1 ad1 → va_S A s.heap H1 locs1 → (∀ w, v = some w → zokv h1 w) → W p l e (zMr Y) s m args below meth c H1 locs1 (k + (zMr Yc).cells) (n + (zMr Yc).slots) QQ (F0 m (pc + 3) lm ((v.map (zc ad1)).toList ++ restV))) : W p l e (zMr Y) s m args below meth c H locs k n QQ (F0 m pc lm ((As.map (zc ad)).reverse ++ restV)) := by
  have hT := C.2.2.2.2.2.1
  have hA := zA_sub (sz := H.size) hP (fun q hq => C.2.2.2.2.2.2.2.2.2.2.2.2.1 q (Nat.le_trans hS.1 hq))
  have hG : GoodIn zT (va_wsS (zMy Y).cls idx (zMy Yc) (zWs Yc)) := by
    refine zT_in (fun w hw => ?_)
    rcases List.mem_append.mp hw with hw | hw
    · simp only [List.mem_cons, List.not_mem_nil, or_false] at hw
      rcases hw with rfl | rfl | rfl
      · exact hl
      · exact V
      · exact M.2.1
    · exact zWs_in M w hw
  refine z_goes (vx_runS (As := As.map (zc ad)) (rest := restV) (nL := zMn Y) ⟨C.1, C.2.1, C.2.2.2.1, C.2.2.2.2.1, hT⟩ (hc D dA ad H.size) (va_cwS As.length hT hG rfl rfl rfl M.2.2 ⟨hf.1, hf.2.1⟩) ⟨zBY_blind, fun U hU hW => ⟨rfl, zB_for C hP hE hS oA hU hW, zScr_for C hP hE hS hU hW eY⟩⟩ rfl (by rw [List.length_map]) hL.1 rfl (lv_room hr) d ⟨hf.2.2.1, hf.2.2.2⟩) hS hA ?_ kk
  intro E h1 ad1 H1 locs1 q ce g1
  exact absurd g1 (kx E h1)
theorem e_callSY {l : Launch} {Y Yc : zM} {Q Qc : zO → zH → Prop} {k n pc : Nat} {ls st As rest : List zV} {h : zH} {idx : Nat} (d : decode (zMc Y) pc = .ok (.invokestatic idx, 3)) (M : zMok Yc As.length) (V : Cond.static (zMy Yc) ∈ zT) (hl : Cond.methodLink (zMy Y).cls idx (zMy Yc) ∈ zT) (eY : zMs Yc = zMs Y) (hst : st = As.reverse ++ rest) (hr : rest.all z1 = true) (hr2 : rest.length ≤ 8) (hf : zFits Y Yc k n) (hc : zCY l Yc As h Qc)
    (kx : ∀ E h1, ¬ Qc (.inr E) h1) (kk : ∀ v h1, Qc (.inl v) h1 → AW l Y Q (k + (zMr Yc).cells) (n + (zMr Yc).slots) (pc + 3) ls (v.toList ++ rest) h1) : AW l Y Q k n pc ls st h := by
  intro p e s m args below meth c D dA ad0 h0 A C H locs ad lm hP hE hS hL o1 o2
  subst hst
  have oA : ∀ v ∈ As, zokv h v := fun v hv => o2 v (List.mem_append_left _ (List.mem_reverse.mpr hv))
  have oR : ∀ v ∈ rest, zokv h v := fun v hv => o2 v (List.mem_append_right _ hv)
  rw [List.map_append, List.map_reverse]
  refine w_callSY (Yc := Yc) C hP hE hS hL d M V hl eY oA (zcat_rest1 hr hr2) hf hc kx ?_
  intro v h1 ad1 H1 locs1 g1 g2 g3 g4 g5
  have K := kk v h1 g1 p e s m args below meth c D dA ad0 h0 A C H1 locs1 ad1 lm g2 (zE_tr hE g3) g4 (zLO_E g3 o1 hL) (fun v hv => zokv_E g3 (o1 v hv)) (fun w hw => by
    rcases List.mem_append.mp hw with hw | hw
    · cases v with
      | none => cases hw
      | some x =>
        rw [show (some x).toList = [x] from rfl, List.mem_singleton] at hw
        rw [hw]
        exact g5 x rfl
    · exact zokv_E g3 (oR w hw))
  rw [List.map_append, zmap_E g3 oR] at K
  cases v with
  | none => exact K
  | some x => exact K
theorem e_aloadY {l : Launch} {Y : zM} {Q : zO → zH → Prop} {k n pc : Nat} {ls st : List zV} {h : zH} {i : Fin 4} {j : Nat} (d : decode (zMc Y) pc = .ok (.aload_n i, 1)) (hi : (i : Nat) = j) (hl : ls[j]? = some zY) (K : AW l Y Q k n (pc + 1) ls (zY :: st) h) : AW l Y Q k n pc ls st h := by
  intro p e s m args below meth c D dA ad0 h0 A C H locs ad lm hP hE hS hL o1 o2
  exact lv_aload_n C.1 C.2.1 d hi (zLO_at hL hl (by intro z; cases z)) (K p e s m args below meth c D dA ad0 h0 A C H locs ad lm hP hE hS hL o1 (zo_cons trivial o2))
theorem e_sld {l : Launch} {Y : zM} {Q : zO → zH → Prop} {k n pc : Nat} {ls st : List zV} {h : zH} {L : Nat} {f : Nat → Int32} {i : Int} (hs : zMs Y = some (L, f)) (d : decode (zMc Y) pc = .ok (.iaload, 1)) (hi0 : 0 ≤ i) (hi1 : i < L) (K : zin (f i.toNat).toInt → AW l Y Q k n (pc + 1) ls (zI (f i.toNat).toInt :: st) h) : AW l Y Q k n pc ls (zI i :: zY :: st) h := by
  intro p e s m args below meth c D dA ad0 h0 A C H locs ad lm hP hE hS hL o1 o2
  have K := K ⟨Int32.le_toInt _, Int32.toInt_lt _⟩ p e s m args below meth c D dA ad0 h0 A C H locs ad lm hP hE hS hL o1 (zo_cons trivial (zo_tl (zo_tl o2)))
  have hsc := C.2.2.2.2.2.2.2.2.2.2.2.2.2.2
  unfold zScr at hsc
  rw [hs] at hsc
  obtain ⟨hX, hbl, hbA, hL2⟩ := hsc
  have hL3 : L < 2147483648 := hL2
  have hi : zin i := ⟨by omega, by omega⟩
  have e1 : ad 1 = ad0 1 := hE.1 1 (Or.inl (Nat.le_refl 1))
  show W p l e (zMr Y) s m args below meth c H locs k n _ (F0 m pc lm (.int (Int32.ofInt i) :: .ref (ad 1) :: st.map (zc ad)))
  rw [e1]
  have hin : vp_in (Int32.ofInt i) L := by
    unfold vp_in
    rw [zcl hi0 hi]
    intro z
    rcases z with z | z
    · have := (zin_lt hi zin_0).mp z
      omega
    · omega
  refine va_sld C.1 C.2.1 hX hbl hbA hS hin d ?_
  rw [zcl hi0 hi]
  have K : W p l e (zMr Y) s m args below meth c H locs k n (vx_MQ below (zQc D dA ad0 h0 Q A) (zXc D dA ad0 h0 Q A) args s (zMr Y).cells (zMr Y).slots A) (F0 m (pc + 1) lm (.int (Int32.ofInt (f i.toNat).toInt) :: st.map (zc ad))) := K
  rw [Int32.ofInt_toInt] at K
  exact K
theorem e_slen {l : Launch} {Y : zM} {Q : zO → zH → Prop} {k n pc : Nat} {ls st : List zV} {h : zH} {L : Nat} {f : Nat → Int32} (hs : zMs Y = some (L, f)) (d : decode (zMc Y) pc = .ok (.arraylength, 1)) (K : AW l Y Q k n (pc + 1) ls (zI (L : Int) :: st) h) : AW l Y Q k n pc ls (zY :: st) h := by
  intro p e s m args below meth c D dA ad0 h0 A C H locs ad lm hP hE hS hL o1 o2
  have K := K p e s m args below meth c D dA ad0 h0 A C H locs ad lm hP hE hS hL o1 (zo_cons trivial (zo_tl o2))
  have hsc := C.2.2.2.2.2.2.2.2.2.2.2.2.2.2
  unfold zScr at hsc
  rw [hs] at hsc
  obtain ⟨hX, hbl, hbA, hL2⟩ := hsc
  have e1 : ad 1 = ad0 1 := hE.1 1 (Or.inl (Nat.le_refl 1))
  show W p l e (zMr Y) s m args below meth c H locs k n _ (F0 m pc lm (.ref (ad 1) :: st.map (zc ad)))
  rw [e1]
  refine va_slen C.1 C.2.1 hX hbl hbA hS d ?_
  exact K
theorem e_lload {l : Launch} {Y : zM} {Q : zO → zH → Prop} {k n pc : Nat} {ls st : List zV} {h : zH} {j : Nat} {z : Int} (d : decode (zMc Y) pc = .ok (.lload j, 2)) (hl : ls[j]? = some (zL z)) (K : AW l Y Q k n (pc + 2) ls (zL z :: st) h) : AW l Y Q k n pc ls st h := by
  intro p e s m args below meth c D dA ad0 h0 A C H locs ad lm hP hE hS hL o1 o2
  exact lv_lload C.1 C.2.1 d (zLO_at hL hl (by intro z; cases z)) (K p e s m args below meth c D dA ad0 h0 A C H locs ad lm hP hE hS hL o1 (zo_cons trivial o2))
theorem zLO_set2 {ad : Nat → Nat} {ls : List zV} {lm : Array Slot} {nL i : Nat} {v : zV} {w : Value} (hlow : zlow ls i = true) (hv : zc ad v = w) (h : lv_has lm nL ((i, w) :: (zls ad ls).filter (fun q => !(q.1 == i) && (!(q.1 == i + 1) && !(q.1 + 1 == i && q.2.category == 2))))) : zLO ad ((ls.set i v).set (i + 1) zX) lm nL := by
  refine ⟨h.1, h.2.1, fun j u hj hu => ?_⟩
  rw [List.getElem?_set] at hj
  by_cases e : i + 1 = j
  · subst e
    rw [if_pos rfl] at hj
    split at hj
    · cases hj
      exact absurd rfl hu
    · cases hj
  · rw [if_neg e, List.getElem?_set] at hj
    by_cases e0 : i = j
    · subst e0
      rw [if_pos rfl] at hj
      split at hj
      · cases hj
        rw [hv]
        exact h.2.2 (i, w) List.mem_cons_self
      · cases hj
    · rw [if_neg e0] at hj
      refine h.2.2 (j, zc ad u) (List.mem_cons_of_mem _ (List.mem_filter.mpr ⟨zls_mem hj hu, ?_⟩))
      have e1 : (j == i) = false := by simp; omega
      have e3 : (j == i + 1) = false := by simp; omega
      have e2 : (j + 1 == i && (zc ad u).category == 2) = false := by
        by_cases e3 : j + 1 = i
        · subst e3
          have h1 : z1 u = true := by
            have := hlow
            simp only [zlow, hj] at this
            exact this
          rw [z1_cat h1]
          simp
        · simp [e3]
      simp only [e1, e2, e3, Bool.not_false, Bool.and_self]
theorem e_lstore {l : Launch} {Y : zM} {Q : zO → zH → Prop} {k n pc : Nat} {ls st : List zV} {h : zH} {j : Nat} {z : Int} {ls2 : List zV} (d : decode (zMc Y) pc = .ok (.lstore j, 2)) (hn : j + 1 < zMn Y) (hw : zlow ls j = true) (hs : (ls.set j (zL z)).set (j + 1) zX = ls2) (K : AW l Y Q k n (pc + 2) ls2 st h) : AW l Y Q k n pc ls (zL z :: st) h := by
  intro p e s m args below meth c D dA ad0 h0 A C H locs ad lm hP hE hS hL o1 o2
  subst hs
  exact lv_lstore C.1 C.2.1 d (zLO_has hL) hn rfl (fun lm2 h2 => K p e s m args below meth c D dA ad0 h0 A C H locs ad lm2 hP hE hS (zLO_set2 hw rfl h2) (zo_set trivial (zo_set trivial o1)) (zo_tl o2))
theorem zi_u32 (u : UInt32) : u.toInt32 = Int32.ofInt (u.toNat : Int) := by
  apply Int32.toBitVec_inj.mp
  show u.toBitVec = BitVec.ofInt 32 ((u.toNat : Nat) : Int)
  rw [BitVec.ofInt_natCast]
  exact (BitVec.ofNat_toNat _ u.toBitVec).symm.trans (by simp)
/-- a logical shift by 3 -/
def sh3 (a : Int) : Int := (((Int32.ofInt a).toUInt32 >>> 3).toNat : Int)
theorem sh3_in (a : Int) : 0 ≤ sh3 a ∧ sh3 a < 536870912 := by
  have h1 : ((Int32.ofInt a).toUInt32 >>> 3).toNat < 536870912 := by
    have h2 := (Int32.ofInt a).toUInt32.toNat_lt
    rw [UInt32.toNat_shiftRight]
    show (Int32.ofInt a).toUInt32.toNat >>> 3 < 536870912
    rw [Nat.shiftRight_eq_div_pow]
    omega
  unfold sh3
  omega
theorem e_iushr3 {l : Launch} {Y : zM} {Q : zO → zH → Prop} {k n pc : Nat} {ls st : List zV} {h : zH} {a : Int} (d : decode (zMc Y) pc = .ok (.iushr, 1)) (K : AW l Y Q k n (pc + 1) ls (zI (sh3 a) :: st) h) : AW l Y Q k n pc ls (zI 3 :: zI a :: st) h := by
  intro p e s m args below meth c D dA ad0 h0 A C H locs ad lm hP hE hS hL o1 o2
  have K := K p e s m args below meth c D dA ad0 h0 A C H locs ad lm hP hE hS hL o1 (zo_cons trivial (zo_tl (zo_tl o2)))
  refine lv_iushr (v := Int32.ofInt (sh3 a)) C.1 C.2.1 d ?_ K
  rw [show ((Int32.ofInt 3).toUInt32 &&& Int32.toUInt32 31) = 3 from by decide]
  exact zi_u32 _
/-- the law's numbers: cell and some -/
def cellv (L : Nat) (f : Nat → Int32) (k : Int) : Int := if k < L then (f k.toNat).toInt else 7919 * k + 12
def smv (L : Nat) (f : Nat → Int32) (k n : Int) : Int := sh3 (cellv L f k) % n
theorem smv_in {L : Nat} {f : Nat → Int32} {k n : Int} (h : 0 < n) : 0 ≤ smv L f k n ∧ smv L f k n < n := ⟨Int.emod_nonneg _ (by omega), Int.emod_lt_of_pos _ h⟩
abbrev MLcell (L : Nat) (f : Nat → Int32) : zM := (yL_cell, cL_cell, 2, (some .int), { frames := 0, cells := 0, slots := 0, locals := 0 }, [], some (L, f))
abbrev MLsome (L : Nat) (f : Nat → Int32) : zM := (yL_some, cL_some, 3, (some .int), { frames := 1, cells := 0, slots := 0, locals := 21 }, [], some (L, f))
theorem c_L_cell {l : Launch} (hl : l.stackTraces = false) {L : Nat} {f : Nat → Int32} {h : zH} (hL : L ≤ 260) (k : Int) (h0 : 0 ≤ k) (h1 : k ≤ 400) : zCY l (MLcell L f) [zY, zI k] h (fun o h' => o = .inl (some (zI (cellv L f k))) ∧ h' = h ∧ zin (cellv L f k)) := by
  refine zCY_of hl rfl (by decide) rfl rfl (Nat.le_of_ble_eq_true rfl) ?_
  refine e_iload_n dL_cell_0 rfl rfl ?_
  refine e_aloadY dL_cell_1 rfl rfl ?_
  refine e_slen (L := L) (f := f) rfl dL_cell_2 ?_
  refine e_icmp_ge (tgt := 12) dL_cell_3 (by decide) (by omega) (by omega) (fun c => ?_) (fun c => ?_)
  · refine e_sipush dL_cell_12 (by decide) ?_
    refine e_iload_n dL_cell_15 rfl rfl ?_
    refine e_imul dL_cell_16 ?_
    refine e_bipush dL_cell_17 (by decide) ?_
    refine e_iadd dL_cell_19 ?_
    refine e_iret dL_cell_20 rfl trivial (by decide) (by decide) ?_
    have e : cellv L f k = 7919 * k + 12 := if_neg (by omega)
    exact ⟨by rw [e], rfl, by rw [e]; omega⟩
  · refine e_aloadY dL_cell_6 rfl rfl ?_
    refine e_iload_n dL_cell_7 rfl rfl ?_
    refine e_sld (L := L) (f := f) rfl dL_cell_8 h0 (by omega) (fun r => ?_)
    refine e_goto (tgt := 20) dL_cell_9 (by decide) ?_
    refine e_iret dL_cell_20 rfl trivial (by decide) (by decide) ?_
    have e : cellv L f k = (f k.toNat).toInt := if_pos (by omega)
    exact ⟨by rw [e], rfl, by rw [e]; exact r⟩
theorem c_L_some {l : Launch} (hl : l.stackTraces = false) {L : Nat} {f : Nat → Int32} {h : zH} (hL : L ≤ 260) (k n : Int) (h0 : 0 ≤ k) (h1 : k ≤ 400) (n0 : 0 < n) (n1 : n ≤ 100000) : zCY l (MLsome L f) [zY, zI k, zI n] h (fun o h' => o = .inl (some (zI (smv L f k n))) ∧ h' = h) := by
  refine zCY_of hl rfl (by decide) rfl rfl (Nat.le_of_ble_eq_true rfl) ?_
  refine e_aloadY dL_some_0 rfl rfl ?_
  refine e_iload_n dL_some_1 rfl rfl ?_
  refine e_callSY (Yc := MLcell L f) (As := [zY, zI _]) dL_some_2 moL_cell msL_cell mlL_7 rfl rfl rfl (by decide) ⟨by decide, by decide, by decide, by decide⟩ (c_L_cell hl hL k h0 h1) (fun E h1 q => by cases q.1) (fun v h9 q => ?_)
  obtain ⟨e1, e2, e3⟩ := q
  cases e1
  rw [e2]
  clear e2 h9
  refine e_iconst dL_some_5 ?_
  refine e_iushr3 dL_some_6 ?_
  have hs := sh3_in (cellv L f k)
  refine e_iload_n dL_some_7 rfl rfl ?_
  refine e_irem dL_some_8 (by omega) (by omega) (by omega) (by omega) ?_
  refine e_iret dL_some_9 rfl trivial (by decide) (by decide) ?_
  exact ⟨rfl, rfl⟩
end
section
/-! "crsm".charAt: over the machine itself (the text's object and bytes are no names of the world) -/
theorem zFs_for {a b : Nat} {A B : Nat → Prop} {s U : State} {H : Heap} {locs : List Loc} (h : zFs a b A s s.heap) (hS : va_S A s.heap H locs) (hvm : s.vm.Alike U.vm) (hBA : ∀ q, B q → A q) : zFs a b B U H :=
  ⟨(va_O.moved hvm (h.1.kept hS.2.1)).narrow hBA, (va_OF.moved hvm (h.2.1.kept hS.2.1)).narrow hBA, (va_OF.moved hvm (h.2.2.1.kept hS.2.1)).narrow hBA, (va_T.moved hvm (h.2.2.2.1.kept hS.2.1)).narrow hBA, (va_Z.moved hvm (h.2.2.2.2.1.kept hS.2.1)).narrow hBA, (va_Zq.moved hvm (h.2.2.2.2.2.kept hS.2.1)).narrow hBA⟩
/-- how a method of the text's begins: a heap, and the text in it -/
def zBs (a b : Nat) (H0 : Heap) (U : State) : Prop := U.heap = H0 ∧ zFs a b (fun _ => False) U U.heap
theorem zBs_blind {a b : Nat} {H0 : Heap} {av : List Value} : FrameBlind (va_Pc av (zBs a b H0)) := by
  intro A U g mk hp
  obtain ⟨h1, h2, h3⟩ := hp
  exact ⟨h1, h2, zFs_for (s := U) (U := U.calling g mk A) h3 (va_S.rf (A := fun _ => False)) (Vm.Alike.refl U.vm) (fun _ y => y)⟩
theorem zBs_for {a b : Nat} {A : Nat → Prop} {s U : State} {H : Heap} {locs : List Loc} (h : zFs a b A s s.heap) (hS : va_S A s.heap H locs) (hU : U.heap = H) (hW : s.WarmedH U.vm) : zBs a b H U := ⟨hU, by rw [hU]; exact zFs_for h hS hW.alike (fun _ y => y.elim)⟩
set_option maxHeartbeats 4000000 in
set_option maxRecDepth 100000 in
theorem m_pciN (l : Launch) (a b : Nat) (H0 : Heap) (i n : Int32) (h1 : ¬ i < 0) (h2 : i < n) : Met l yJ3_checkIndex_8e157 (zWs MJ3_checkIndex_8e157) (zMr MJ3_checkIndex_8e157) (va_Pc [.int i, .int n, .null] (zBs a b H0)) (va_Qi (fun (r : Int32) (_ : Unit) => True) (fun _ t => t.heap = H0) (fun _ => False)) 0 0 (fun _ => False) := by
  refine Met.ofW (cc := cJ3_checkIndex_8e157) (maxL := 3) (ret := (some .int)) (by decide) rfl ?_
  intro p e s m args below meth c s₁ B hml hv9
  obtain ⟨rfl, hU0, hF⟩ := hv9
  subst hU0
  have hx := B.exec
  have hb := B.bytes
  have hr := B.returns
  have hts := atoms_spec (ws := zWs MJ3_checkIndex_8e157) B.pre
  have hT : ∀ w ∈ zT, w.before ([.int i, .int n, .null] : List Value).toArray s = true := fun w hw => hts w (List.mem_cons_of_mem _ hw)
  have hown := findClass_of_methodNamed B.named
  have hlocks := B.notSynchronized
  have hS : va_S (fun _ => False) s.heap s.heap [] := va_S.rf
  have hl := lv_entry ([.int i, .int n, .null]) (n := 3) (Nat.le_of_ble_eq_true rfl)
  rw [lg_entry_eq]
  generalize (lg_sl ([.int i, .int n, .null]) ++ List.replicate (3 - (lg_sl ([.int i, .int n, .null])).length) Slot.unset).toArray = ls at hl ⊢
  have hl : lv_has ls 3 [(0, .int i), (1, .int n), (2, .null)] := hl
  refine lv_iload_n hx hb dJ3_checkIndex_8e157_0 rfl (lv_at hl 0 rfl) ?_
  refine lv_if_lt (tgt := 9) hx hb dJ3_checkIndex_8e157_1 (by decide) (fun z => absurd z h1) (fun _ => ?_)
  refine lv_iload_n hx hb dJ3_checkIndex_8e157_4 rfl (lv_at hl 0 rfl) ?_
  refine lv_iload_n hx hb dJ3_checkIndex_8e157_5 rfl (lv_at hl 1 rfl) ?_
  refine lv_icmp_lt (tgt := 16) hx hb dJ3_checkIndex_8e157_6 (by decide) (fun _ => ?_) (fun z => absurd h2 z)
  refine lv_iload_n hx hb dJ3_checkIndex_8e157_16 rfl (lv_at hl 0 rfl) ?_
  exact W.zret (v := i) hx hb hr rfl (fun t ht hW => ⟨⟨i, (), rfl, trivial, ht⟩, hS.F ht⟩) hS.2.2 dJ3_checkIndex_8e157_17
set_option maxHeartbeats 4000000 in
set_option maxRecDepth 100000 in
theorem m_pciR (l : Launch) (a b : Nat) (H0 : Heap) (i n : Int32) (h1 : ¬ i < 0) (h2 : i < n) (t9 : Nat) : Met l yJ3_checkIndex_8e157 (zWs MJ3_checkIndex_8e157) (zMr MJ3_checkIndex_8e157) (va_Pc [.int i, .int n, .ref t9] (zBs a b H0)) (va_Qi (fun (r : Int32) (_ : Unit) => True) (fun _ t => t.heap = H0) (fun _ => False)) 0 0 (fun _ => False) := by
  refine Met.ofW (cc := cJ3_checkIndex_8e157) (maxL := 3) (ret := (some .int)) (by decide) rfl ?_
  intro p e s m args below meth c s₁ B hml hv9
  obtain ⟨rfl, hU0, hF⟩ := hv9
  subst hU0
  have hx := B.exec
  have hb := B.bytes
  have hr := B.returns
  have hts := atoms_spec (ws := zWs MJ3_checkIndex_8e157) B.pre
  have hT : ∀ w ∈ zT, w.before ([.int i, .int n, .ref t9] : List Value).toArray s = true := fun w hw => hts w (List.mem_cons_of_mem _ hw)
  have hown := findClass_of_methodNamed B.named
  have hlocks := B.notSynchronized
  have hS : va_S (fun _ => False) s.heap s.heap [] := va_S.rf
  have hl := lv_entry ([.int i, .int n, .ref t9]) (n := 3) (Nat.le_of_ble_eq_true rfl)
  rw [lg_entry_eq]
  generalize (lg_sl ([.int i, .int n, .ref t9]) ++ List.replicate (3 - (lg_sl ([.int i, .int n, .ref t9])).length) Slot.unset).toArray = ls at hl ⊢
  have hl : lv_has ls 3 [(0, .int i), (1, .int n), (2, .ref t9)] := hl
  refine lv_iload_n hx hb dJ3_checkIndex_8e157_0 rfl (lv_at hl 0 rfl) ?_
  refine lv_if_lt (tgt := 9) hx hb dJ3_checkIndex_8e157_1 (by decide) (fun z => absurd z h1) (fun _ => ?_)
  refine lv_iload_n hx hb dJ3_checkIndex_8e157_4 rfl (lv_at hl 0 rfl) ?_
  refine lv_iload_n hx hb dJ3_checkIndex_8e157_5 rfl (lv_at hl 1 rfl) ?_
  refine lv_icmp_lt (tgt := 16) hx hb dJ3_checkIndex_8e157_6 (by decide) (fun _ => ?_) (fun z => absurd h2 z)
  refine lv_iload_n hx hb dJ3_checkIndex_8e157_16 rfl (lv_at hl 0 rfl) ?_
  exact W.zret (v := i) hx hb hr rfl (fun t ht hW => ⟨⟨i, (), rfl, trivial, ht⟩, hS.F ht⟩) hS.2.2 dJ3_checkIndex_8e157_17
theorem zgS {Yc : zM} {idx n : Nat} {own : String} (hl : Cond.methodLink own idx (zMy Yc) ∈ zT) (V : Cond.static (zMy Yc) ∈ zT) (M : zMok Yc n) : GoodIn zT (va_wsS own idx (zMy Yc) (zWs Yc)) := by
  refine zT_in (fun w hw => ?_)
  rcases List.mem_append.mp hw with hw | hw
  · simp only [List.mem_cons, List.not_mem_nil, or_false] at hw
    rcases hw with rfl | rfl | rfl
    · exact hl
    · exact V
    · exact M.2.1
  · exact zWs_in M w hw
theorem zgV {Yc : zM} {idx n : Nat} {own : String} (hl : Cond.methodLink own idx (zMy Yc) ∈ zT) (V : zVok Yc) (M : zMok Yc n) : GoodIn zT (wsV own idx (zMy Yc).cls (zMy Yc) (zWs Yc)) := by
  refine zT_in (fun w hw => ?_)
  rcases List.mem_append.mp hw with hw | hw
  · simp only [List.mem_cons, List.not_mem_nil, or_false] at hw
    rcases hw with rfl | rfl | rfl | rfl
    · exact hl
    · exact V.1
    · exact V.2
    · exact M.2.1
  · exact zWs_in M w hw
set_option maxHeartbeats 4000000 in
set_option maxRecDepth 100000 in
theorem m_jci (l : Launch) (a b : Nat) (H0 : Heap) (i n : Int32) (h1 : ¬ i < 0) (h2 : i < n) : Met l yJ0_checkIndex_df160 (zWs MJ0_checkIndex_df160) (zMr MJ0_checkIndex_df160) (va_Pc [.int i, .int n] (zBs a b H0)) (va_Qv (fun (_ : Unit) => True) (fun _ t => t.heap = H0) (fun _ => False)) 0 0 (fun _ => False) := by
  refine Met.ofW (cc := cJ0_checkIndex_df160) (maxL := 2) (ret := none) (by decide) rfl ?_
  intro p e s m args below meth c s₁ B hml hv9
  obtain ⟨rfl, hU0, hF⟩ := hv9
  subst hU0
  have hx := B.exec
  have hb := B.bytes
  have hr := B.returns
  have hts := atoms_spec (ws := zWs MJ0_checkIndex_df160) B.pre
  have hT : ∀ w ∈ zT, w.before ([.int i, .int n] : List Value).toArray s = true := fun w hw => hts w (List.mem_cons_of_mem _ hw)
  have hown := findClass_of_methodNamed B.named
  have hlocks := B.notSynchronized
  have hS : va_S (fun _ => False) s.heap s.heap [] := va_S.rf
  have hl := lv_entry ([.int i, .int n]) (n := 2) (Nat.le_of_ble_eq_true rfl)
  rw [lg_entry_eq]
  generalize (lg_sl ([.int i, .int n]) ++ List.replicate (2 - (lg_sl ([.int i, .int n])).length) Slot.unset).toArray = ls at hl ⊢
  have hl : lv_has ls 2 [(0, .int i), (1, .int n)] := hl
  refine lv_iload_n hx hb dJ0_checkIndex_df160_0 rfl (lv_at hl 0 rfl) ?_
  refine lv_iload_n hx hb dJ0_checkIndex_df160_1 rfl (lv_at hl 1 rfl) ?_
  rcases hF.2.2.2.2.2 with hz9 | ⟨t9, hz9⟩
  · refine va_gets hx hb hz9 hS hown (hT _ fwJ0_1053) (fun _ h9 => h9) dJ0_checkIndex_df160_2 ?_
    refine va_calli (va_runS (As := [.int i, .int n, .null]) (rest := []) ⟨hx, hb, hml, hown, hT⟩ (m_pciN l a b s.heap i n h1 h2) (va_cwS 3 hT (zgS mlJ0_1059 msJ3_checkIndex_8e157 moJ3_checkIndex_8e157) rfl rfl rfl moJ3_checkIndex_8e157.2.2 ⟨by decide, by decide⟩) ⟨zBs_blind, fun U hU hW => ⟨rfl, zBs_for hF hS hU hW⟩⟩ rfl rfl hl.1 rfl (lv_room (Nat.le_of_ble_eq_true rfl)) dJ0_checkIndex_df160_5 ⟨by decide, by decide⟩) hS (fun q _ h => h.elim) (fun q h => h.elim) (fun r u t H1 locs1 ht hvm hw hB hz1 hk1 hS => ?_)
    obtain rfl : H1 = s.heap := ht.symm.trans hB
    refine lv_pop hx hb dJ0_checkIndex_df160_8 rfl ?_
    exact W.vret hx hb hr (fun t ht hW => ⟨⟨(), rfl, trivial, ht⟩, hS.F ht⟩) hS.2.2 dJ0_checkIndex_df160_9
  · refine va_gets hx hb hz9 hS hown (hT _ fwJ0_1053) (fun _ h9 => h9) dJ0_checkIndex_df160_2 ?_
    refine va_calli (va_runS (As := [.int i, .int n, .ref t9]) (rest := []) ⟨hx, hb, hml, hown, hT⟩ (m_pciR l a b s.heap i n h1 h2 t9) (va_cwS 3 hT (zgS mlJ0_1059 msJ3_checkIndex_8e157 moJ3_checkIndex_8e157) rfl rfl rfl moJ3_checkIndex_8e157.2.2 ⟨by decide, by decide⟩) ⟨zBs_blind, fun U hU hW => ⟨rfl, zBs_for hF hS hU hW⟩⟩ rfl rfl hl.1 rfl (lv_room (Nat.le_of_ble_eq_true rfl)) dJ0_checkIndex_df160_5 ⟨by decide, by decide⟩) hS (fun q _ h => h.elim) (fun q h => h.elim) (fun r u t H1 locs1 ht hvm hw hB hz1 hk1 hS => ?_)
    obtain rfl : H1 = s.heap := ht.symm.trans hB
    refine lv_pop hx hb dJ0_checkIndex_df160_8 rfl ?_
    exact W.vret hx hb hr (fun t ht hW => ⟨⟨(), rfl, trivial, ht⟩, hS.F ht⟩) hS.2.2 dJ0_checkIndex_df160_9
set_option maxHeartbeats 4000000 in
set_option maxRecDepth 100000 in
theorem m_chL (l : Launch) (a b : Nat) (H0 : Heap) (i z9 : Int32) (h1 : ¬ i < 0) (h2 : i < 4) (h3 : vp_in i 4) (h4 : (([99, 114, 115, 109] : List Int32).getD i.toNatClampNeg 0) = z9) (h5 : z9 &&& 255 = z9) (h6 : (z9.toUInt32 % 65536).toInt32 = z9) (h7 : narrow .char (.int z9) = .int z9) : Met l yJ1_charAt_3b067 (zWs MJ1_charAt_3b067) (zMr MJ1_charAt_3b067) (va_Pc [.ref b, .int i] (zBs a b H0)) (va_Qi (fun (r : Int32) (_ : Unit) => r = z9) (fun _ t => t.heap = H0) (fun _ => False)) 0 0 (fun _ => False) := by
  refine Met.ofW (cc := cJ1_charAt_3b067) (maxL := 2) (ret := (some .char)) (by decide) rfl ?_
  intro p e s m args below meth c s₁ B hml hv9
  obtain ⟨rfl, hU0, hF⟩ := hv9
  subst hU0
  have hx := B.exec
  have hb := B.bytes
  have hr := B.returns
  have hts := atoms_spec (ws := zWs MJ1_charAt_3b067) B.pre
  have hT : ∀ w ∈ zT, w.before ([.ref b, .int i] : List Value).toArray s = true := fun w hw => hts w (List.mem_cons_of_mem _ hw)
  have hown := findClass_of_methodNamed B.named
  have hlocks := B.notSynchronized
  have hS : va_S (fun _ => False) s.heap s.heap [] := va_S.rf
  have hl := lv_entry ([.ref b, .int i]) (n := 2) (Nat.le_of_ble_eq_true rfl)
  rw [lg_entry_eq]
  generalize (lg_sl ([.ref b, .int i]) ++ List.replicate (2 - (lg_sl ([.ref b, .int i])).length) Slot.unset).toArray = ls at hl ⊢
  have hl : lv_has ls 2 [(0, .ref b), (1, .int i)] := hl
  refine lv_iload_n hx hb dJ1_charAt_3b067_0 rfl (lv_at hl 1 rfl) ?_
  refine lv_aload_n hx hb dJ1_charAt_3b067_1 rfl (lv_at hl 0 rfl) ?_
  refine va_tlen (v := 4) hx hb hF.2.2.2.1 hS rfl dJ1_charAt_3b067_2 ?_
  refine va_callv (va_runS (As := [.int i, .int 4]) (rest := []) ⟨hx, hb, hml, hown, hT⟩ (m_jci l a b s.heap i 4 h1 h2) (va_cwS 2 hT (zgS mlJ1_9 msJ0_checkIndex_df160 moJ0_checkIndex_df160) rfl rfl rfl moJ0_checkIndex_df160.2.2 ⟨by decide, by decide⟩) ⟨zBs_blind, fun U hU hW => ⟨rfl, zBs_for hF hS hU hW⟩⟩ rfl rfl hl.1 rfl (lv_room (Nat.le_of_ble_eq_true rfl)) dJ1_charAt_3b067_3 ⟨by decide, by decide⟩) hS (fun q _ h => h.elim) (fun q h => h.elim) (fun u t H1 locs1 ht hvm hw hB hz1 hk1 hS => ?_)
  obtain rfl : H1 = s.heap := ht.symm.trans hB
  refine lv_aload_n hx hb dJ1_charAt_3b067_6 rfl (lv_at hl 0 rfl) ?_
  refine lv_iload_n hx hb dJ1_charAt_3b067_7 rfl (lv_at hl 1 rfl) ?_
  refine va_tb (v := .int z9) hx hb hF.2.2.2.1 hS h3 (by rw [← h4]) dJ1_charAt_3b067_8 ?_
  refine lv_sipush (v := 255) hx hb dJ1_charAt_3b067_9 (by decide) ?_
  refine lv_iand hx hb dJ1_charAt_3b067_12 ?_
  rw [h5]
  refine lv_i2c hx hb dJ1_charAt_3b067_13 h6 ?_
  exact W.zret (v := z9) hx hb hr h7 (fun t ht hW => ⟨⟨z9, (), rfl, rfl, ht⟩, hS.F ht⟩) hS.2.2 dJ1_charAt_3b067_14
set_option maxHeartbeats 4000000 in
set_option maxRecDepth 100000 in
theorem m_isL (l : Launch) (a b : Nat) (H0 : Heap) : Met l yJ0_isLatin1_aae02 (zWs MJ0_isLatin1_aae02) (zMr MJ0_isLatin1_aae02) (va_Pc [.ref a] (zBs a b H0)) (va_Qi (fun (r : Int32) (_ : Unit) => r = 1) (fun _ t => t.heap = H0) (fun _ => False)) 0 0 (fun _ => False) := by
  refine Met.ofW (cc := cJ0_isLatin1_aae02) (maxL := 1) (ret := (some .boolean)) (by decide) rfl ?_
  intro p e s m args below meth c s₁ B hml hv9
  obtain ⟨rfl, hU0, hF⟩ := hv9
  subst hU0
  have hx := B.exec
  have hb := B.bytes
  have hr := B.returns
  have hts := atoms_spec (ws := zWs MJ0_isLatin1_aae02) B.pre
  have hT : ∀ w ∈ zT, w.before ([.ref a] : List Value).toArray s = true := fun w hw => hts w (List.mem_cons_of_mem _ hw)
  have hown := findClass_of_methodNamed B.named
  have hlocks := B.notSynchronized
  have hS : va_S (fun _ => False) s.heap s.heap [] := va_S.rf
  have hl := lv_entry ([.ref a]) (n := 1) (Nat.le_of_ble_eq_true rfl)
  rw [lg_entry_eq]
  generalize (lg_sl ([.ref a]) ++ List.replicate (1 - (lg_sl ([.ref a])).length) Slot.unset).toArray = ls at hl ⊢
  have hl : lv_has ls 1 [(0, .ref a)] := hl
  refine va_gets hx hb hF.2.2.2.2.1 hS hown (hT _ fwJ0_38) (fun _ h9 => h9) dJ0_isLatin1_aae02_0 ?_
  refine lv_if_eq (tgt := 17) hx hb dJ0_isLatin1_aae02_3 (by decide) (fun z => absurd z (by decide)) (fun _ => ?_)
  refine lv_aload_n hx hb dJ0_isLatin1_aae02_6 rfl (lv_at hl 0 rfl) ?_
  refine vk_getf hx hb hF.2.1 hS hown (hT _ fwJ0_15) (fun _ h9 => h9) dJ0_isLatin1_aae02_7 ?_
  refine lv_if_ne (tgt := 17) hx hb dJ0_isLatin1_aae02_10 (by decide) (fun z => absurd rfl z) (fun _ => ?_)
  refine lv_iconst (v := 1) hx hb dJ0_isLatin1_aae02_13 (by decide) ?_
  refine lv_goto (tgt := 18) hx hb dJ0_isLatin1_aae02_14 (by decide) ?_
  exact W.zret (v := 1) hx hb hr (by decide) (fun t ht hW => ⟨⟨1, (), rfl, rfl, ht⟩, hS.F ht⟩) hS.2.2 dJ0_isLatin1_aae02_18
theorem zBs_recv {a b : Nat} {A : Nat → Prop} {s : State} {H : Heap} {locs : List Loc} (h : zFs a b A s s.heap) (hS : va_S A s.heap H locs) : ∃ cell : Cell, H[a]? = some cell ∧ cell.vm.isStatics = false ∧ s.vm.findClass "java/lang/String" = some cell.cls := by
  obtain ⟨cell, h1, h2, h3, -⟩ := h.1.kept hS.2.1
  exact ⟨cell, h1, h2, h3⟩
set_option maxHeartbeats 4000000 in
set_option maxRecDepth 100000 in
theorem m_chr (l : Launch) (a b : Nat) (H0 : Heap) (i z9 : Int32) (h1 : ¬ i < 0) (h2 : i < 4) (h3 : vp_in i 4) (h4 : (([99, 114, 115, 109] : List Int32).getD i.toNatClampNeg 0) = z9) (h5 : z9 &&& 255 = z9) (h6 : (z9.toUInt32 % 65536).toInt32 = z9) (h7 : narrow .char (.int z9) = .int z9) : Met l yJ0_charAt_5068e (zWs MJ0_charAt_5068e) (zMr MJ0_charAt_5068e) (va_Pc [.ref a, .int i] (zBs a b H0)) (va_Qi (fun (r : Int32) (_ : Unit) => r = z9) (fun _ t => t.heap = H0) (fun _ => False)) 0 0 (fun _ => False) := by
  refine Met.ofW (cc := cJ0_charAt_5068e) (maxL := 2) (ret := (some .char)) (by decide) rfl ?_
  intro p e s m args below meth c s₁ B hml hv9
  obtain ⟨rfl, hU0, hF⟩ := hv9
  subst hU0
  have hx := B.exec
  have hb := B.bytes
  have hr := B.returns
  have hts := atoms_spec (ws := zWs MJ0_charAt_5068e) B.pre
  have hT : ∀ w ∈ zT, w.before ([.ref a, .int i] : List Value).toArray s = true := fun w hw => hts w (List.mem_cons_of_mem _ hw)
  have hown := findClass_of_methodNamed B.named
  have hlocks := B.notSynchronized
  have hS : va_S (fun _ => False) s.heap s.heap [] := va_S.rf
  have hl := lv_entry ([.ref a, .int i]) (n := 2) (Nat.le_of_ble_eq_true rfl)
  rw [lg_entry_eq]
  generalize (lg_sl ([.ref a, .int i]) ++ List.replicate (2 - (lg_sl ([.ref a, .int i])).length) Slot.unset).toArray = ls at hl ⊢
  have hl : lv_has ls 2 [(0, .ref a), (1, .int i)] := hl
  refine lv_aload_n hx hb dJ0_charAt_5068e_0 rfl (lv_at hl 0 rfl) ?_
  refine va_calli (va_runV (b := a) (As := []) (rest := []) ⟨hx, hb, hml, hown, hT⟩ (m_isL l a b s.heap) (cwV 0 hT (zgV mlJ0_492 mvJ0_isLatin1_aae02 moJ0_isLatin1_aae02) rfl rfl rfl ⟨rfl, moJ0_isLatin1_aae02.2.2⟩ ⟨by decide, by decide⟩) ⟨zBs_blind, zBs_recv hF hS, fun U hU hW => ⟨rfl, zBs_for hF hS hU hW⟩⟩ rfl rfl hl.1 rfl (lv_room (Nat.le_of_ble_eq_true rfl)) dJ0_charAt_5068e_1 ⟨by decide, by decide⟩) hS (fun q _ h => h.elim) (fun q h => h.elim) (fun r u t H1 locs1 ht hvm hw hB hz1 hk1 hS => ?_)
  obtain rfl : H1 = s.heap := ht.symm.trans hB
  rw [show r = 1 from hw]
  refine lv_if_eq (tgt := 16) hx hb dJ0_charAt_5068e_4 (by decide) (fun z => absurd z (by decide)) (fun _ => ?_)
  refine lv_aload_n hx hb dJ0_charAt_5068e_7 rfl (lv_at hl 0 rfl) ?_
  refine vk_getf hx hb hF.2.2.1 hS hown (hT _ fwJ0_9) (fun _ h9 => h9) dJ0_charAt_5068e_8 ?_
  refine lv_iload_n hx hb dJ0_charAt_5068e_11 rfl (lv_at hl 1 rfl) ?_
  refine va_calli (va_runS (As := [.ref b, .int i]) (rest := []) ⟨hx, hb, hml, hown, hT⟩ (m_chL l a b s.heap i z9 h1 h2 h3 h4 h5 h6 h7) (va_cwS 2 hT (zgS mlJ0_495 msJ1_charAt_3b067 moJ1_charAt_3b067) rfl rfl rfl moJ1_charAt_3b067.2.2 ⟨by decide, by decide⟩) ⟨zBs_blind, fun U hU hW => ⟨rfl, zBs_for hF hS hU hW⟩⟩ rfl rfl hl.1 rfl (lv_room (Nat.le_of_ble_eq_true rfl)) dJ0_charAt_5068e_12 ⟨by decide, by decide⟩) hS (fun q _ h => h.elim) (fun q h => h.elim) (fun r2 u2 t2 H2 locs2 ht2 hvm2 hw2 hB2 hz2 hk2 hS => ?_)
  obtain rfl : H2 = s.heap := ht2.symm.trans hB2
  rw [show r2 = z9 from hw2]
  exact W.zret (v := z9) hx hb hr h7 (fun t ht hW => ⟨⟨z9, (), rfl, rfl, ht⟩, hS.F ht⟩) hS.2.2 dJ0_charAt_5068e_15
/-- the letter at a place of the text -/
def how4 (v : Int) : Int := if v = 0 then 99 else if v = 1 then 114 else if v = 2 then 115 else 109
abbrev MLW (L : Nat) (f : Nat → Int32) : zM := (yL_law, cL_law, 20, (some .boolean), room_1, [], some (L, f))
set_option maxHeartbeats 4000000 in
set_option maxRecDepth 100000 in
/-- the law's own text and the letter that is asked of it, in one row -/
theorem e_crsm {l : Launch} (hl : l.stackTraces = false) {L : Nat} {f : Nat → Int32} (hL2 : L ≤ 260) {Q : zO → zH → Prop} {k n : Nat} {ls : List zV} {h : zH} {at9 : Int} (l0 : ls[0]? = some zY) (l10 : ls[10]? = some (zI at9)) (ha : 0 ≤ at9 ∧ at9 ≤ 390) (hk : k ≤ 600192) (hn : n ≤ 7295879) (K : AW l (MLW L f) Q k n 564 ls [zI (how4 (smv L f (at9 + 4) 4))] h) : AW l (MLW L f) Q k n 550 ls [] h := by
  intro p e s m args below meth c D dA ad0 h0 A C H locs ad lm hP hE hS hL o1 o2
  have hT := C.2.2.2.2.2.1
  obtain ⟨a, b, hR, hF⟩ := C.2.2.2.2.2.2.2.2.2.2.1.2.2.2.2
  refine va_ldcS C.1 C.2.1 C.2.2.2.2.1 hR dL_law_550 ?_
  refine lv_aload_n C.1 C.2.1 dL_law_552 rfl (zLO_at hL l0 (by intro z; cases z)) ?_
  refine lv_iload C.1 C.2.1 dL_law_553 (zLO_at hL l10 zne_I) ?_
  refine lv_iconst (v := Int32.ofInt 4) C.1 C.2.1 dL_law_555 rfl ?_
  refine lv_iadd C.1 C.2.1 dL_law_556 ?_
  rw [← Int32.ofInt_add]
  refine lv_iconst (v := Int32.ofInt 4) C.1 C.2.1 dL_law_557 rfl ?_
  refine w_callSY (Y := MLW L f) (Yc := MLsome L f) (As := [zY, zI (at9 + 4), zI 4]) (restV := [.ref a]) C hP hE hS hL dL_law_558 moL_some msL_some mlL_146 rfl (fun v hv => ?_) (by show (1 : Nat) ≤ 8; omega) ⟨by decide, Nat.le_of_ble_eq_true rfl, by show k + 0 ≤ 600192; omega, by show n + 0 ≤ 7295879; omega⟩ (c_L_some hl hL2 (at9 + 4) 4 (by omega) (by omega) (by omega) (by omega)) (fun E h1 q => by cases q.1) (fun v h1 ad1 H1 locs1 q hP1 hE1 hS1 ho => ?_)
  · rcases List.mem_cons.mp hv with rfl | hv
    · trivial
    · rcases List.mem_cons.mp hv with rfl | hv
      · trivial
      · rcases List.mem_cons.mp hv with rfl | hv
        · trivial
        · cases hv
  obtain ⟨e1, e2⟩ := q
  cases e1
  subst e2
  have hb := smv_in (L := L) (f := f) (k := at9 + 4) (n := 4) (by omega)
  generalize smv L f (at9 + 4) 4 = v at hb K
  have hz : ∃ i z9 : Int32, Int32.ofInt v = i ∧ Int32.ofInt (how4 v) = z9 ∧ ¬ i < 0 ∧ i < 4 ∧ vp_in i 4 ∧ (([99, 114, 115, 109] : List Int32).getD i.toNatClampNeg 0) = z9 ∧ z9 &&& 255 = z9 ∧ (z9.toUInt32 % 65536).toInt32 = z9 ∧ narrow .char (.int z9) = .int z9 := by
    rcases (show v = 0 ∨ v = 1 ∨ v = 2 ∨ v = 3 by omega) with rfl | rfl | rfl | rfl
    · exact ⟨0, 99, rfl, rfl, by decide, by decide, by unfold vp_in; decide, rfl, by decide, by decide, by decide⟩
    · exact ⟨1, 114, rfl, rfl, by decide, by decide, by unfold vp_in; decide, rfl, by decide, by decide, by decide⟩
    · exact ⟨2, 115, rfl, rfl, by decide, by decide, by unfold vp_in; decide, rfl, by decide, by decide, by decide⟩
    · exact ⟨3, 109, rfl, rfl, by decide, by decide, by unfold vp_in; decide, rfl, by decide, by decide, by decide⟩
  obtain ⟨i, z9, ei, ez, h1, h2, h3, h4, h5, h6, h7⟩ := hz
  show W p l e room_1 s m args below meth c H1 locs1 (k + 0) (n + 0) _ (F0 m 561 lm [.int (Int32.ofInt v), .ref a])
  rw [ei]
  refine va_calli (va_runV (b := a) (As := [.int i]) (rest := []) ⟨C.1, C.2.1, C.2.2.2.1, C.2.2.2.2.1, hT⟩ (m_chr l a b H1 i z9 h1 h2 h3 h4 h5 h6 h7) (cwV 1 hT (zgV mlL_167 mvJ0_charAt_5068e moJ0_charAt_5068e) rfl rfl rfl ⟨rfl, moJ0_charAt_5068e.2.2⟩ ⟨by decide, Nat.le_of_ble_eq_true rfl⟩) ⟨zBs_blind, zBs_recv hF hS1, fun U hU hW => ⟨rfl, zBs_for hF hS1 hU hW⟩⟩ rfl rfl hL.1 rfl (lv_room (Nat.le_of_ble_eq_true rfl)) dL_law_561 ⟨by show k + 0 + 0 ≤ 600192; omega, by show n + 0 + 0 ≤ 7295879; omega⟩) hS1 (fun q _ h => h.elim) (fun q h => h.elim) (fun r u t H2 locs2 ht hvm hw hB hz1 hk1 hS2 => ?_)
  obtain rfl : H2 = H1 := ht.symm.trans hB
  rw [show r = z9 from hw, ← ez]
  exact K p e s m args below meth c D dA ad0 h0 A C H2 locs2 ad1 lm hP1 (zE_tr hE hE1) hS2 (zLO_E hE1 o1 hL) (fun v hv => zokv_E hE1 (o1 v hv)) (zo_cons trivial (fun v hv => by cases hv))
end
