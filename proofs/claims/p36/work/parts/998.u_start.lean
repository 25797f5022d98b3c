/-! THE CLAIM: from the law's entry -/
def R_law : String := "RemotepaneLaw"
def lw_P (b : Addr) (xs : List Int32) (args : Array Value) (s : State) : Prop := args = #[.ref b] ∧ s.IntsAt b xs ∧ xs.length ≤ 260 ∧ (Jvm.Cond.and given_1 narrow_1).before args s = true
def lw_Q (_ : Array Value) (s : State) (o : Outcome) (t : State) : Prop := o = .returned (some (.int 1)) ∧ Framed s o t [] 600192 7295879
def lw_Z (below : List Frame) (a : Array Value) (s : State) : State → Prop := fun t => ∃ o, t.status = .running ∧ Ended t below o ∧ lw_Q a s o t
def lw_At (p : Program) (s : State) (m : MethodId) (meth : Method) (c : Code) (b L : Nat) (xs : Nat → Int32) : Prop :=
  p.tables.exec = Jvm.exec ∧ c.code = code ∧ meth.sig.returnType = ret ∧ c.maxLocals = 20 ∧ s.vm.findClass R_law = some m.cls ∧ (∀ w ∈ lw_tbl, w.before #[Value.ref b] s = true) ∧ va_X b L xs s s.heap ∧ b < s.heap.size ∧ meth.locks = false ∧ (Jvm.Cond.and given_1 narrow_1).before #[Value.ref b] s = true ∧ meth.name = "law" ∧ c.exceptionTable.toList = []
theorem zT_tbl {w : Cond} (h : w ∈ zT) : w ∈ lw_tbl := (List.mem_filter.mp h).1
/-- the classes -/
theorem st_K {s : State} {a : Array Value} (hts : ∀ w ∈ lw_tbl, w.before a s = true) : ∃ D : va_G, va_K D zCl [] s := by
  have hin : ∀ k, k < 10 → Cond.instantiable (zCn k) (zFn k) ∈ lw_tbl := by decide +kernel
  have hKn : ∀ k, k < 10 → ∃ (cC : ClassId) (iS : Nat → Nat), u_Kn s (zCn k) (zCt k) (zFn k) cC iS := fun k hk => u_known hts (fun w hw => zT_tbl (zCl_ws k hk w hw)) (hts _ (hin k hk))
  refine ⟨(fun k => if h : k < 10 then (hKn k h).choose else 0, fun k => if h : k < 10 then (hKn k h).choose_spec.choose else fun _ => 0), fun k q hq => ?_, fun k q h => by simp at h⟩
  have hk : k < 10 := (List.getElem?_eq_some_iff.mp hq).1
  cases Option.some.inj (hq.symm.trans (zCl_at k hk))
  simp only [dif_pos hk]
  exact (hKn k hk).choose_spec.choose_spec
/-- what the Statement gives, in its parts -/
theorem st_str {s : State} {a : Array Value} (hts : ∀ w ∈ lw_tbl, w.before a s = true) (hg : (Jvm.Cond.and given_1 narrow_1).before a s = true) : zStr zSs s := by
  have hs := flat_of_before _ hg
  have s1 : ∀ q ∈ zSs, Cond.stringRef q.1 q.2.1 q.2.2 ∈ lw_tbl := by decide +kernel
  have s2 : ∀ q ∈ zSs, Cond.exactly (.string q.1 q.2.1) "java/lang/String" ∈ flatC (Jvm.Cond.and given_1 narrow_1) := by decide +kernel
  have n1 : ∀ E ∈ zXs, ∀ F ∈ zXs, E ≠ F → Cond.not (.castable E F) ∈ flatC (Jvm.Cond.and given_1 narrow_1) := by decide +kernel
  have c1 : ∀ q ∈ zCa, Cond.castable q.1 q.2 ∈ lw_tbl := by decide +kernel
  have d1 : ∀ x ∈ zDe, Cond.declares x ∈ lw_tbl := by decide +kernel
  have m1 : ∀ q ∈ zNm, Cond.methodLinkNest q.1 q.2.1 q.2.2.1 q.2.2.2 ∈ lw_tbl := by decide +kernel
  have o1 : ∀ E ∈ zOv, Cond.arrayOver (.object E) ∈ lw_tbl := by decide +kernel
  refine ⟨fun q hq => ?_, ⟨fun E hE F hF ne => va_Nc.of (hs _ (n1 E hE F hF ne)), va_Mi.of (hs (Cond.isRef (.mirror "[Ljava/lang/Object;")) (by decide +kernel))⟩, fun q hq => va_Nw.of rfl (hts _ (c1 q hq)), fun x hx => va_Nw.of rfl (hts _ (d1 x hx)), fun q hq => va_Nw.of rfl (hts _ (m1 q hq)), fun E hE => va_AO.of (hts _ (o1 E hE))⟩
  obtain ⟨x, cc, cell, k, h1, -⟩ := Cond.exactly_spec (hs _ (s2 q hq))
  exact ⟨x, vk_R.of (hts _ (s1 q hq)) h1⟩
theorem st_Cr {s : State} {a : Array Value} {A : Nat → Prop} (hA : ∀ q : Nat, q < s.heap.size → ¬ A q) (hts : ∀ w ∈ lw_tbl, w.before a s = true) (hg : (Jvm.Cond.and given_1 narrow_1).before a s = true) : zCr A s s.heap := by
  have hs := flat_of_before _ hg
  have hex : (Cond.exactly (.string RL 165) "java/lang/String").before a s = true := hs _ (by decide +kernel)
  have hrf : (Cond.stringRef RL 165 "crsm").before a s = true := hts _ (by decide +kernel)
  have hco : (Cond.eq (.field (.string RL 165) "java/lang/String" "coder" "B") (.int 0)).before a s = true := hs _ (by decide +kernel)
  have har : (Cond.arrayOf (.field (.string RL 165) "java/lang/String" "value" "[B") .byte).before a s = true := hs _ (by decide +kernel)
  have hle : (Cond.eq (.length (.field (.string RL 165) "java/lang/String" "value" "[B")) (.int 4)).before a s = true := hs _ (by decide +kernel)
  have hel : ∀ j : Nat, j < 4 → (Cond.eq (.elem (.field (.string RL 165) "java/lang/String" "value" "[B") (.int (Int32.ofNat j))) (.int (([99, 114, 115, 109] : List Int32).getD j 0))).before a s = true := fun j hj => by
    match j, hj with
    | 0, _ => exact hs _ (by decide +kernel)
    | 1, _ => exact hs _ (by decide +kernel)
    | 2, _ => exact hs _ (by decide +kernel)
    | 3, _ => exact hs _ (by decide +kernel)
    | j + 4, h => omega
  have hcs : (Cond.eq (.static "java/lang/String" "COMPACT_STRINGS" "Z") (.int 1)).before a s = true := hs _ (by decide +kernel)
  have hsi : (Cond.isRef (.static "jdk/internal/util/Preconditions" "SIOOBE_FORMATTER" "Ljava/util/function/BiFunction;")).before a s = true := hs _ (by decide +kernel)
  obtain ⟨x, c, cA, kA, q1, q2, q3, q4, q5, q6, -⟩ := Cond.exactly_spec hex
  obtain ⟨t, ht, hT⟩ := va_Tof (N := 4) (f := fun j => .int (([99, 114, 115, 109] : List Int32).getD j 0)) (A := A) (by decide) har (va_eqt hle) (fun j hj => va_eqt (hel j hj)) hA
  exact ⟨x, t, vk_R.of hrf q1, va_Oof hex q1 hA, vk_OFof q1 (va_eqt hco) hA, vk_OFof q1 ht hA, hT, va_Zof (hts _ (by decide +kernel)) (hts _ (by decide +kernel)) (va_eqt hcs) hA, va_Zqof (hts _ (by decide +kernel)) (hts _ (by decide +kernel)) hsi hA⟩
theorem st_S {s : State} {a : Array Value} {A : Nat → Prop} (hA : ∀ q : Nat, q < s.heap.size → ¬ A q) (hts : ∀ w ∈ lw_tbl, w.before a s = true) (hg : (Jvm.Cond.and given_1 narrow_1).before a s = true) : ∃ e0, zS A e0 s s.heap := by
  have hs := flat_of_before _ hg
  have h1 : (Cond.isRef (.static Bundle.tN "UNASSIGNED_STACK" Bundle.steD)).before a s = true := hs _ (by decide +kernel)
  have h2 : (Cond.isRef (.static Bundle.tN "SUPPRESSED_SENTINEL" Bundle.listD)).before a s = true := hs _ (by decide +kernel)
  have h4 : (Cond.arrayOf (.static RJx4a65c "DEFAULTCAPACITY_EMPTY_ELEMENTDATA" "[Ljava/lang/Object;") (.object "java/lang/Object")).before a s = true := hs _ (by decide +kernel)
  have h5 : (Cond.eq (.length (.static RJx4a65c "DEFAULTCAPACITY_EMPTY_ELEMENTDATA" "[Ljava/lang/Object;")) (.int 0)).before a s = true := hs _ (by decide +kernel)
  obtain ⟨e0, g1, g2⟩ := va_Tof (N := 0) (f := fun _ => .null) (by decide) h4 (va_eqt h5) (fun j hj => absurd hj (Nat.not_lt_zero j)) hA
  exact ⟨e0, vx_Zqof (hts _ (by decide +kernel)) (hts _ (by decide +kernel)) h1 hA, vx_Zqof (hts _ (by decide +kernel)) (hts _ (by decide +kernel)) h2 hA, va_Zof (hts _ (by decide +kernel)) (hts _ (by decide +kernel)) g1 hA, g2, st_Cr hA hts hg⟩
theorem st_loc {b : Nat} {ad : Nat → Nat} (h1 : ad 1 = b) : zLO ad [zY, zX, zX, zX, zX, zX, zX, zX, zX, zX, zX, zX, zX, zX, zX, zX, zX, zX, zX, zX] (lg_sl ([Value.ref b]) ++ List.replicate (20 - (lg_sl ([Value.ref b])).length) Slot.unset).toArray 20 ∧ True := by
  have hl := lv_entry ([Value.ref b]) (n := 20) (Nat.le_of_ble_eq_true rfl)
  refine ⟨⟨hl.1, hl.2.1, fun i v hi hv => ?_⟩, trivial⟩
  match i, hi with
  | 0, hi =>
    cases hi
    have := hl.2.2 (0, .ref b) List.mem_cons_self
    show _ = some (Slot.val (.ref (ad 1)))
    rw [h1]
    exact this
  | 1, hi => cases hi; exact absurd rfl hv
  | 2, hi => cases hi; exact absurd rfl hv
  | 3, hi => cases hi; exact absurd rfl hv
  | 4, hi => cases hi; exact absurd rfl hv
  | 5, hi => cases hi; exact absurd rfl hv
  | 6, hi => cases hi; exact absurd rfl hv
  | 7, hi => cases hi; exact absurd rfl hv
  | 8, hi => cases hi; exact absurd rfl hv
  | 9, hi => cases hi; exact absurd rfl hv
  | 10, hi => cases hi; exact absurd rfl hv
  | 11, hi => cases hi; exact absurd rfl hv
  | 12, hi => cases hi; exact absurd rfl hv
  | 13, hi => cases hi; exact absurd rfl hv
  | 14, hi => cases hi; exact absurd rfl hv
  | 15, hi => cases hi; exact absurd rfl hv
  | 16, hi => cases hi; exact absurd rfl hv
  | 17, hi => cases hi; exact absurd rfl hv
  | 18, hi => cases hi; exact absurd rfl hv
  | 19, hi => cases hi; exact absurd rfl hv
  | i + 20, hi => simp at hi
theorem st_fl {l : Launch} (h : l.flags = flags0) : l.stackTraces = false := by
  unfold Launch.stackTraces
  rw [h]
  decide +kernel
set_option maxHeartbeats 4000000 in
set_option maxRecDepth 100000 in
theorem whole_start {p : Program} {e : Env} {s : State} {m : MethodId} {below : List Frame} {meth : Method} {c : Code} (l : Launch) (hflags : l.flags = flags0) (hG : GMore l) {b L : Nat} {xs : Nat → Int32} (hL : L ≤ 260) (C0 : lw_At p s m meth c b L xs) : W p l e room_1 s m #[Value.ref b] below meth c s.heap [] 0 0 (lw_Z below #[Value.ref b] s) (entryFrame m ([Value.ref b] : List Value).toArray 20) := by
  obtain ⟨hx, hb, hr, hml, hown, hts, hX, hbl, hlocks, hgv, hnm, hex⟩ := id C0
  obtain ⟨A, hAd⟩ : ∃ A : Nat → Prop, A = fun q => s.heap.size ≤ q := ⟨_, rfl⟩
  have hA : ∀ q : Nat, q < s.heap.size → ¬ A q := fun q h => by rw [hAd]; exact Nat.not_le.mpr h
  have hA2 : ∀ q : Nat, s.heap.size ≤ q → A q := fun q h => by rw [hAd]; exact h
  obtain ⟨D, hK⟩ := st_K hts
  obtain ⟨e0, hS0⟩ := st_S hA hts hgv
  have hst := st_str hts hgv
  have hl := st_fl hflags
  obtain ⟨dA, hdA⟩ : ∃ dA : Nat → ClassId, zTK s dA := ⟨fun t => (s.vm.findClass ("[" ++ (zAt t).toString)).getD 0, fun t c hc => by
    show Option.getD _ 0 = c
    rw [hc]
    rfl⟩
  obtain ⟨ad, ha0, ha1⟩ : ∃ ad : Nat → Nat, ad 0 = e0 ∧ ad 1 = b := ⟨fun n => if n = 0 then e0 else b, rfl, rfl⟩
  have hlm := (st_loc ha1).1
  rw [lg_entry_eq]
  have hP : zP s D dA A ad zH0 s.heap := by
    refine ⟨⟨fun _ _ => zin_0, fun _ _ => zin_0, fun _ _ => zok_none, fun _ _ => zok_none, fun _ => ⟨Int.le_refl 0, by show (0 : Int) < 2147483648; decide⟩, rfl, fun n hn => absurd rfl hn, fun n j hn => Or.inl rfl⟩, [], [], hK, fun n => ⟨fun h => (by cases h), fun h => absurd rfl h⟩, fun n hn => (by cases hn), fun k q h => (by cases h), ⟨fun i j p q h => (by cases h), fun k q h => (by cases h)⟩⟩
  have K := law_AW hl hG (f := xs) hL p e s m #[Value.ref b] below meth c D dA ad zH0 A ⟨hx, hb, hr, hml, hown, fun w hw => hts w (zT_tbl hw), hlocks, hnm, hex, hdA, by rw [ha0]; exact hS0, hst, hA2, hl, by rw [ha1]; exact ⟨hX, hbl, hA b hbl, by show L < 2147483648; omega⟩⟩ s.heap [] ad _ hP zE_rf va_S.rf hlm (fun v hv => by
    rcases List.mem_cons.mp hv with rfl | hv
    · trivial
    · have : v = zX := by simpa using hv
      rw [this]; trivial) (fun v hv => by cases hv)
  intro T hT X
  obtain ⟨t, a1, o, b1, b2, b3⟩ := K T hT X
  refine ⟨t, a1, o, b1, b2, ?_⟩
  rcases b3 with ⟨⟨⟨v, h', ad', e1, e2, -⟩, -⟩, L9, ⟨hv, hW, hs⟩, hL9⟩ | ⟨q, -, E, ce, L9, ⟨⟨h', ad', e2, -⟩, -⟩, -⟩
  · cases e2
    refine ⟨e1, hv, hW, hs.weaken (fun y hy hlt => ?_) (Nat.le_refl _) (Nat.le_refl _)⟩
    exact absurd (hL9 y hy) (hA _ hlt)
  · cases e2
