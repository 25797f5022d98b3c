/-! Arrays.copyOf of a list's row -/
def cqH (h : zH) (e a N : Nat) (cp : Int) : zH := sqw (nw h a (100 + 7) N) a (zcp (zq (nw h a (100 + 7) N) e) (zq (nw h a (100 + 7) N) a) 0 0 cp)
set_option maxHeartbeats 4000000 in
set_option maxRecDepth 100000 in
theorem aw6 {l : Launch} {h : zH} {e a N : Nat} {cp : Int} {Q : zO → zH → Prop} (he : zK h e = 107) (hcp : zN h e = cp) (h0 : 0 ≤ cp) (hn : cp ≤ N) (hN : N ≤ 40) (a1 : 1 < a) (ha : zK h a = 0) (hel : ∀ i, 0 ≤ i → i < cp → ∀ y, zq h e i = some y → zK h y = 5) (hQ : Q (.inl (some (zR (some a)))) (cqH h e a N cp)) : AW l MJ7_copyOf_6403c Q 0 0 6 [zR (some e), zI N, zX, zX] [] h := by
  have hea : e ≠ a := fun z => by rw [z, ha] at he; cases he
  have ee := eqAt_nw (h := h) (kd := 100 + 7) (len := (N : Int)) hea
  refine e_iload_n dJ7_copyOf_6403c_6 rfl rfl ?_
  refine e_newq a 7 N dJ7_copyOf_6403c_7 (by decide) (by decide) rfl gwC2 tw_ovO rfl (by omega) a1 ha (by decide) (by show 0 + N ≤ 40; omega) ?_
  refine e_goto (tgt := 24) dJ7_copyOf_6403c_10 (by decide) ?_
  refine e_astore_n dJ7_copyOf_6403c_24 rfl (by decide) rfl rfl ?_
  refine e_aload_n dJ7_copyOf_6403c_25 rfl rfl ?_
  refine e_iconst dJ7_copyOf_6403c_26 ?_
  refine e_aload_n dJ7_copyOf_6403c_27 rfl rfl ?_
  refine e_iconst dJ7_copyOf_6403c_28 ?_
  refine e_aload_n dJ7_copyOf_6403c_29 rfl rfl ?_
  refine e_alen dJ7_copyOf_6403c_30 (show zK _ e = 100 + 7 from ee.1.trans he) (ee.2.1.trans hcp) ?_
  refine e_iload_n dJ7_copyOf_6403c_31 rfl rfl ?_
  refine e_min dJ7_copyOf_6403c_32 gw304 tw_mnS tw_maI tw_mnC (Nat.le_of_ble_eq_true rfl) (by decide) (by decide) (by decide) (by show 0 + N ≤ 40; omega) (by omega) (by omega) ?_
  rw [if_neg (by omega)]
  refine e_copyq (ci := 4) dJ7_copyOf_6403c_35 gw150 tw_acN tw_acS tw_acI (ee.1.trans he) (if_pos rfl) (by decide) (by decide) (by omega) (by omega) h0 (by rw [ee.2.1, hcp]; omega) (by rw [show zN (nw h a (100 + 7) (N : Int)) a = N from if_pos rfl]; omega) (fun i i0 i1 y hy => ?_) (by decide) (by decide) (by decide) ?_
  · rw [ee.2.2.2.2.2.1] at hy
    have k5 := hel i i0 (by omega) y hy
    exact (eqAt_nw (fun z => by rw [z, ha] at k5; cases k5)).1.trans k5
  refine e_aload_n dJ7_copyOf_6403c_38 rfl rfl ?_
  refine e_aret dJ7_copyOf_6403c_39 rfl rfl (by decide) (by show 0 + N ≤ 40; omega) ?_
  exact hQ
def zB6 (D : va_G) (dA : Nat → ClassId) (ad : Nat → Nat) (sz : Nat) (As : List zV) (h : zH) (mi : Nat) (U : State) : Prop := zB D dA ad sz As h U ∧ va_Mi "[Ljava/lang/Object;" mi U
theorem zB6_blind {D : va_G} {dA : Nat → ClassId} {ad : Nat → Nat} {sz : Nat} {As : List zV} {h : zH} {mi : Nat} {av : List Value} : FrameBlind (va_Pc av (zB6 D dA ad sz As h mi)) := by
  intro a U g mk hp
  exact ⟨hp.1, (zB_blind (av := av) a U g mk ⟨hp.1, hp.2.1⟩).2, va_Mi.moved (U := U.calling g mk a) (Vm.Alike.refl U.vm) hp.2.2⟩
set_option maxHeartbeats 4000000 in
set_option maxRecDepth 100000 in
theorem met6 {l : Launch} (hl : l.stackTraces = false) {h : zH} {e N : Nat} {Q : zO → zH → Prop} (K : AW l MJ7_copyOf_6403c Q 0 0 6 [zR (some e), zI N, zX, zX] [] h) (D : va_G) (dA : Nat → ClassId) (ad : Nat → Nat) (sz mi : Nat) : vx_Met l (zMy MJ7_copyOf_6403c) (zWs MJ7_copyOf_6403c) (zMr MJ7_copyOf_6403c) (va_Pc [.ref (ad e), .int (Int32.ofInt N), .ref mi] (zB6 D dA ad sz [zR (some e), zI N] h mi)) (zQc D dA ad h Q (zA ad h sz)) (zXc D dA ad h Q (zA ad h sz)) (zMr MJ7_copyOf_6403c).cells (zMr MJ7_copyOf_6403c).slots (zA ad h sz) := by
  refine vx_ofW (cc := zMc MJ7_copyOf_6403c) (maxL := zMn MJ7_copyOf_6403c) (ret := zMt MJ7_copyOf_6403c) (by decide) rfl ?_
  intro p e9 s m args below meth c s₁ B hml hex hv
  obtain ⟨ha, ⟨hsz, hP, hTK, hS0, hstr, hoks⟩, hmi⟩ := hv
  subst ha
  have hts0 : ∀ w ∈ zWs MJ7_copyOf_6403c, w.before ([.ref (ad e), .int (Int32.ofInt N), .ref mi] : List Value).toArray s = true := atoms_spec (ws := zWs MJ7_copyOf_6403c) B.pre
  have hlv := lv_entry ([.ref (ad e), .int (Int32.ofInt N), .ref mi]) (n := 4) (Nat.le_of_ble_eq_true rfl)
  have hex2 : c.exceptionTable.toList = [] := by
    cases hx : c.exceptionTable.toList with
    | nil => rfl
    | cons x xs => exact (hex x (by rw [hx]; exact List.mem_cons_self)).elim
  rw [lg_entry_eq]
  have C : zCX l MJ7_copyOf_6403c p s m ([.ref (ad e), .int (Int32.ofInt N), .ref mi] : List Value).toArray meth c dA (zA ad h sz) (ad 0) (ad 1) := ⟨B.exec, B.bytes, B.returns, hml, findClass_of_methodNamed B.named, fun w hw => hts0 w (List.mem_cons_of_mem _ hw), B.notSynchronized, (name_of_methodNamed B.named B.method).1, by rw [hex2]; rfl, hTK, hS0, hstr, fun q hq => Or.inr (by rw [← hsz]; exact hq), hl, trivial⟩
  have hlv : lv_has (lg_sl ([.ref (ad e), .int (Int32.ofInt N), .ref mi]) ++ List.replicate (4 - (lg_sl ([.ref (ad e), .int (Int32.ofInt N), .ref mi])).length) Slot.unset).toArray 4 [(0, .ref (ad e)), (1, .int (Int32.ofInt N)), (2, .ref mi)] := hlv
  show W p l e9 _ s m _ below meth c s.heap [] 0 0 _ (F0 m 0 (lg_sl ([.ref (ad e), .int (Int32.ofInt N), .ref mi]) ++ List.replicate (4 - (lg_sl ([.ref (ad e), .int (Int32.ofInt N), .ref mi])).length) Slot.unset).toArray [])
  generalize (lg_sl ([.ref (ad e), .int (Int32.ofInt N), .ref mi]) ++ List.replicate (4 - (lg_sl ([.ref (ad e), .int (Int32.ofInt N), .ref mi])).length) Slot.unset).toArray = ls0 at hlv ⊢
  refine lv_aload_n C.1 C.2.1 dJ7_copyOf_6403c_0 rfl (hlv.2.2 (2, .ref mi) (by simp)) ?_
  refine va_ldcM C.1 C.2.1 C.2.2.2.2.1 (C.2.2.2.2.2.1 _ gwC110) hmi dJ7_copyOf_6403c_1 ?_
  refine lv_acmp_ne (rx := some mi) (ry := some mi) (tgt := 13) C.1 C.2.1 dJ7_copyOf_6403c_3 (by decide) (fun z => absurd rfl z) (fun _ => ?_)
  refine K p e9 s m _ below meth c D dA ad h (zA ad h sz) C s.heap [] ad ls0 hP zE_rf va_S.rf ⟨hlv.1, hlv.2.1, fun i v hi hv => ?_⟩ (fun v hv => ?_) (fun v hv => by cases hv)
  · match i, hi with
    | 0, hi => cases hi; exact hlv.2.2 (0, .ref (ad e)) (by simp)
    | 1, hi => cases hi; exact hlv.2.2 (1, .int (Int32.ofInt N)) (by simp)
    | 2, hi => cases hi; exact absurd rfl hv
    | 3, hi => cases hi; exact absurd rfl hv
    | i + 4, hi => simp at hi
  · rcases List.mem_cons.mp hv with rfl | hv
    · exact hoks _ List.mem_cons_self
    · rcases List.mem_cons.mp hv with rfl | hv
      · trivial
      · have : v = zX := by simpa using hv
        rw [this]; trivial
