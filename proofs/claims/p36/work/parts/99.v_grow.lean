/-! the growth of a list's row -/
def gcM : MethodName := ⟨"java/lang/Object", "getClass", "()Ljava/lang/Class;"⟩
/-- what the context says of Object[]'s Class object -/
def MiOK : Prop := ∀ {l : Launch} {Y : zM} {p : Program} {s : State} {m : MethodId} {args : Array Value} {meth : Method} {c : Code} {dA : Nat → ClassId} {A : Nat → Prop} {e0 e1 : Nat}, zCX l Y p s m args meth c dA A e0 e1 → (∃ mi, va_Mi "[Ljava/lang/Object;" mi s) ∧ va_Dc s
theorem mi_ok : MiOK := by
  intro l Y p s m args meth c dA A e0 e1 C
  exact ⟨C.2.2.2.2.2.2.2.2.2.2.2.1.2.1.2, C.2.2.2.2.2.2.2.2.2.2.2.1.2.2.2.1 gcM (by decide +kernel)⟩
theorem gw86 : Cond.methodLink RJ7 86 gcM ∈ zT := zTm (by decide +kernel) rfl
theorem gwSe : Cond.selects "[Ljava/lang/Object;" gcM gcM ∈ zT := zTm (by decide +kernel) rfl
theorem gwIn : Cond.instanceMethod gcM ∈ zT := zTm (by decide +kernel) rfl
theorem gwNa : Cond.native gcM ∈ zT := zTm (by decide +kernel) rfl
theorem gwC110 : Cond.classLink RJ7 110 "[Ljava/lang/Object;" ∈ zT := zTm (by decide +kernel) rfl
theorem gwC2 : Cond.classLink RJ7 2 "java/lang/Object" ∈ zT := zTm (by decide +kernel) rfl
theorem gw304 : Cond.methodLink RJ7 304 Lib.Math.min.name ∈ zT := zTm (by decide +kernel) rfl
theorem gw150 : Cond.methodLink RJ7 150 arraycopyName ∈ zT := zTm (by decide +kernel) rfl
theorem gw194 : Cond.methodLink RJ8 194 Lib.Math.max.name ∈ zT := zTm (by decide +kernel) rfl
theorem gwK200 : Cond.constant RJ8 200 2147483639 ∈ zT := zTm (by decide +kernel) rfl
theorem moG_6 : zMok MJ7_copyOf_6403c 3 := ⟨zTm (by decide +kernel) rfl, zTm (by decide +kernel) rfl, by decide, by decide, by decide +kernel⟩
theorem msG_6 : Cond.static yJ7_copyOf_6403c ∈ zT := zTm (by decide +kernel) rfl
theorem moG_1 : zMok MJ7_copyOf_1904c 2 := ⟨zTm (by decide +kernel) rfl, zTm (by decide +kernel) rfl, by decide, by decide, by decide +kernel⟩
theorem msG_1 : Cond.static yJ7_copyOf_1904c ∈ zT := zTm (by decide +kernel) rfl
theorem moG_n : zMok MJ8_newLength_cabcc 3 := ⟨zTm (by decide +kernel) rfl, zTm (by decide +kernel) rfl, by decide, by decide, by decide +kernel⟩
theorem msG_n : Cond.static yJ8_newLength_cabcc ∈ zT := zTm (by decide +kernel) rfl
theorem e_ldcI {l : Launch} {Y : zM} {Q : zO → zH → Prop} {k n pc : Nat} {ls st : List zV} {h : zH} {idx : Nat} {z : Int} (d : decode (zMc Y) pc = .ok (.ldc idx, 2)) (w : Cond.constant (zMy Y).cls idx (Int32.ofInt z) ∈ zT) (K : AW l Y Q k n (pc + 2) ls (zI z :: st) h) : AW l Y Q k n pc ls st h := by
  intro p e s m args below meth c D dA ad0 h0 A C H locs ad lm hP hE hS hL o1 o2
  exact lv_ldc C.1 C.2.1 C.2.2.2.2.1 (C.2.2.2.2.2.1 _ w) d (K p e s m args below meth c D dA ad0 h0 A C H locs ad lm hP hE hS hL o1 (zo_cons trivial o2))
set_option maxHeartbeats 4000000 in
set_option maxRecDepth 100000 in
theorem c_newLength {l : Launch} (hl : l.stackTraces = false) {h : zH} {a b c w : Int} (ha : 0 ≤ a ∧ a ≤ 1000) (hb : 0 ≤ b ∧ b ≤ 1000) (hc : 0 ≤ c ∧ c ≤ 1000) (hw : a + (if b < c then c else b) = w) (h1 : 1 ≤ w ∧ w ≤ 2000) : zC l MJ8_newLength_cabcc [zI a, zI b, zI c] h (fun o h' => o = .inl (some (zI w)) ∧ h' = h) := by
  refine zC_of hl rfl rfl (by decide) rfl rfl (Nat.le_of_ble_eq_true rfl) ?_
  refine e_iload_n dJ8_newLength_cabcc_0 rfl rfl ?_
  refine e_iload_n dJ8_newLength_cabcc_1 rfl rfl ?_
  refine e_iload_n dJ8_newLength_cabcc_2 rfl rfl ?_
  refine e_max dJ8_newLength_cabcc_3 gw194 tw_mxS tw_maI tw_mxC (Nat.le_of_ble_eq_true rfl) (by decide) (by decide) (by decide) (by decide) (by omega) (by omega) ?_
  refine e_iadd dJ8_newLength_cabcc_6 ?_
  rw [hw]
  refine e_istore_n dJ8_newLength_cabcc_7 rfl (by decide) rfl rfl ?_
  refine e_iconst dJ8_newLength_cabcc_8 ?_
  refine e_iload_n dJ8_newLength_cabcc_9 rfl rfl ?_
  refine e_icmp_ge (tgt := 21) dJ8_newLength_cabcc_10 (by decide) (by omega) (by omega) (fun y => ?_) (fun y => ?_)
  · exfalso; omega
  refine e_iload_n dJ8_newLength_cabcc_13 rfl rfl ?_
  refine e_ldcI (z := 2147483639) dJ8_newLength_cabcc_14 gwK200 ?_
  refine e_icmp_gt (tgt := 21) dJ8_newLength_cabcc_16 (by decide) (by omega) (by omega) (fun y => ?_) (fun y => ?_)
  · exfalso; omega
  refine e_iload_n dJ8_newLength_cabcc_19 rfl rfl ?_
  refine e_iret dJ8_newLength_cabcc_20 rfl trivial (by decide) (by decide) ?_
  exact ⟨rfl, rfl⟩
