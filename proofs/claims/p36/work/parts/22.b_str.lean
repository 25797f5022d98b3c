/-! "crsm".charAt: over the machine itself (the text's object and bytes are no names of the world) -/
theorem zFs_for {a b : Nat} {A B : Nat → Prop} {s U : State} {H : Heap} {locs : List Loc} (h : zFs a b A s s.heap) (hS : va_S A s.heap H locs) (hvm : s.vm.Alike U.vm) (hBA : ∀ q, B q → A q) : zFs a b B U H :=
  ⟨(va_O.moved hvm (h.1.kept hS.2.1)).narrow hBA, (va_OF.moved hvm (h.2.1.kept hS.2.1)).narrow hBA, (va_OF.moved hvm (h.2.2.1.kept hS.2.1)).narrow hBA, (va_T.moved hvm (h.2.2.2.1.kept hS.2.1)).narrow hBA, (va_Z.moved hvm (h.2.2.2.2.1.kept hS.2.1)).narrow hBA, (va_Zq.moved hvm (h.2.2.2.2.2.kept hS.2.1)).narrow hBA⟩
/-- how a method of the text's begins: a heap, and the text in it -/
def zBs (a b : Nat) (H0 : Heap) (U : State) : Prop := U.heap = H0 ∧ zFs a b (fun _ => False) U U.heap
theorem zBs_blind {a b : Nat} {H0 : Heap} {av : List Value} : FrameBlind (va_Pc av (zBs a b H0)) := by
  intro A U g mk hp
  obtain ⟨h1, h2, h3⟩ := hp
  exact ⟨h1, h2, zFs_for (s := U) (U := U.calling g mk A) h3 (va_S.rf (A := fun _ => False)) (Vm.Alike.refl U.vm) (fun _ y => y)⟩
theorem zBs_for {a b : Nat} {A : Nat → Prop} {s U : State} {H : Heap} {locs : List Loc} (h : zFs a b A s s.heap) (hS : va_S A s.heap H locs) (hU : U.heap = H) (hW : s.WarmedH U.vm) : zBs a b H U := ⟨hU, by rw [hU]; exact zFs_for h hS hW.alike (fun _ y => y.elim)⟩
set_option maxHeartbeats 4000000 in
set_option maxRecDepth 100000 in
theorem m_pciN (l : Launch) (a b : Nat) (H0 : Heap) (i n : Int32) (h1 : ¬ i < 0) (h2 : i < n) : Met l yJ3_checkIndex_8e157 (zWs MJ3_checkIndex_8e157) (zMr MJ3_checkIndex_8e157) (va_Pc [.int i, .int n, .null] (zBs a b H0)) (va_Qi (fun (r : Int32) (_ : Unit) => True) (fun _ t => t.heap = H0) (fun _ => False)) 0 0 (fun _ => False) := by
  refine Met.ofW (cc := cJ3_checkIndex_8e157) (maxL := 3) (ret := (some .int)) (by decide) rfl ?_
  intro p e s m args below meth c s₁ B hml hv9
  obtain ⟨rfl, hU0, hF⟩ := hv9
  subst hU0
  have hx := B.exec
  have hb := B.bytes
  have hr := B.returns
  have hts := atoms_spec (ws := zWs MJ3_checkIndex_8e157) B.pre
  have hT : ∀ w ∈ zT, w.before ([.int i, .int n, .null] : List Value).toArray s = true := fun w hw => hts w (List.mem_cons_of_mem _ hw)
  have hown := findClass_of_methodNamed B.named
  have hlocks := B.notSynchronized
  have hS : va_S (fun _ => False) s.heap s.heap [] := va_S.rf
  have hl := lv_entry ([.int i, .int n, .null]) (n := 3) (Nat.le_of_ble_eq_true rfl)
  rw [lg_entry_eq]
  generalize (lg_sl ([.int i, .int n, .null]) ++ List.replicate (3 - (lg_sl ([.int i, .int n, .null])).length) Slot.unset).toArray = ls at hl ⊢
  have hl : lv_has ls 3 [(0, .int i), (1, .int n), (2, .null)] := hl
  refine lv_iload_n hx hb dJ3_checkIndex_8e157_0 rfl (lv_at hl 0 rfl) ?_
  refine lv_if_lt (tgt := 9) hx hb dJ3_checkIndex_8e157_1 (by decide) (fun z => absurd z h1) (fun _ => ?_)
  refine lv_iload_n hx hb dJ3_checkIndex_8e157_4 rfl (lv_at hl 0 rfl) ?_
  refine lv_iload_n hx hb dJ3_checkIndex_8e157_5 rfl (lv_at hl 1 rfl) ?_
  refine lv_icmp_lt (tgt := 16) hx hb dJ3_checkIndex_8e157_6 (by decide) (fun _ => ?_) (fun z => absurd h2 z)
  refine lv_iload_n hx hb dJ3_checkIndex_8e157_16 rfl (lv_at hl 0 rfl) ?_
  exact W.zret (v := i) hx hb hr rfl (fun t ht hW => ⟨⟨i, (), rfl, trivial, ht⟩, hS.F ht⟩) hS.2.2 dJ3_checkIndex_8e157_17
set_option maxHeartbeats 4000000 in
set_option maxRecDepth 100000 in
theorem m_pciR (l : Launch) (a b : Nat) (H0 : Heap) (i n : Int32) (h1 : ¬ i < 0) (h2 : i < n) (t9 : Nat) : Met l yJ3_checkIndex_8e157 (zWs MJ3_checkIndex_8e157) (zMr MJ3_checkIndex_8e157) (va_Pc [.int i, .int n, .ref t9] (zBs a b H0)) (va_Qi (fun (r : Int32) (_ : Unit) => True) (fun _ t => t.heap = H0) (fun _ => False)) 0 0 (fun _ => False) := by
  refine Met.ofW (cc := cJ3_checkIndex_8e157) (maxL := 3) (ret := (some .int)) (by decide) rfl ?_
  intro p e s m args below meth c s₁ B hml hv9
  obtain ⟨rfl, hU0, hF⟩ := hv9
  subst hU0
  have hx := B.exec
  have hb := B.bytes
  have hr := B.returns
  have hts := atoms_spec (ws := zWs MJ3_checkIndex_8e157) B.pre
  have hT : ∀ w ∈ zT, w.before ([.int i, .int n, .ref t9] : List Value).toArray s = true := fun w hw => hts w (List.mem_cons_of_mem _ hw)
  have hown := findClass_of_methodNamed B.named
  have hlocks := B.notSynchronized
  have hS : va_S (fun _ => False) s.heap s.heap [] := va_S.rf
  have hl := lv_entry ([.int i, .int n, .ref t9]) (n := 3) (Nat.le_of_ble_eq_true rfl)
  rw [lg_entry_eq]
  generalize (lg_sl ([.int i, .int n, .ref t9]) ++ List.replicate (3 - (lg_sl ([.int i, .int n, .ref t9])).length) Slot.unset).toArray = ls at hl ⊢
  have hl : lv_has ls 3 [(0, .int i), (1, .int n), (2, .ref t9)] := hl
  refine lv_iload_n hx hb dJ3_checkIndex_8e157_0 rfl (lv_at hl 0 rfl) ?_
  refine lv_if_lt (tgt := 9) hx hb dJ3_checkIndex_8e157_1 (by decide) (fun z => absurd z h1) (fun _ => ?_)
  refine lv_iload_n hx hb dJ3_checkIndex_8e157_4 rfl (lv_at hl 0 rfl) ?_
  refine lv_iload_n hx hb dJ3_checkIndex_8e157_5 rfl (lv_at hl 1 rfl) ?_
  refine lv_icmp_lt (tgt := 16) hx hb dJ3_checkIndex_8e157_6 (by decide) (fun _ => ?_) (fun z => absurd h2 z)
  refine lv_iload_n hx hb dJ3_checkIndex_8e157_16 rfl (lv_at hl 0 rfl) ?_
  exact W.zret (v := i) hx hb hr rfl (fun t ht hW => ⟨⟨i, (), rfl, trivial, ht⟩, hS.F ht⟩) hS.2.2 dJ3_checkIndex_8e157_17
theorem zgS {Yc : zM} {idx n : Nat} {own : String} (hl : Cond.methodLink own idx (zMy Yc) ∈ zT) (V : Cond.static (zMy Yc) ∈ zT) (M : zMok Yc n) : GoodIn zT (va_wsS own idx (zMy Yc) (zWs Yc)) := by
  refine zT_in (fun w hw => ?_)
  rcases List.mem_append.mp hw with hw | hw
  · simp only [List.mem_cons, List.not_mem_nil, or_false] at hw
    rcases hw with rfl | rfl | rfl
    · exact hl
    · exact V
    · exact M.2.1
  · exact zWs_in M w hw
theorem zgV {Yc : zM} {idx n : Nat} {own : String} (hl : Cond.methodLink own idx (zMy Yc) ∈ zT) (V : zVok Yc) (M : zMok Yc n) : GoodIn zT (wsV own idx (zMy Yc).cls (zMy Yc) (zWs Yc)) := by
  refine zT_in (fun w hw => ?_)
  rcases List.mem_append.mp hw with hw | hw
  · simp only [List.mem_cons, List.not_mem_nil, or_false] at hw
    rcases hw with rfl | rfl | rfl | rfl
    · exact hl
    · exact V.1
    · exact V.2
    · exact M.2.1
  · exact zWs_in M w hw
set_option maxHeartbeats 4000000 in
set_option maxRecDepth 100000 in
theorem m_jci (l : Launch) (a b : Nat) (H0 : Heap) (i n : Int32) (h1 : ¬ i < 0) (h2 : i < n) : Met l yJ0_checkIndex_df160 (zWs MJ0_checkIndex_df160) (zMr MJ0_checkIndex_df160) (va_Pc [.int i, .int n] (zBs a b H0)) (va_Qv (fun (_ : Unit) => True) (fun _ t => t.heap = H0) (fun _ => False)) 0 0 (fun _ => False) := by
  refine Met.ofW (cc := cJ0_checkIndex_df160) (maxL := 2) (ret := none) (by decide) rfl ?_
  intro p e s m args below meth c s₁ B hml hv9
  obtain ⟨rfl, hU0, hF⟩ := hv9
  subst hU0
  have hx := B.exec
  have hb := B.bytes
  have hr := B.returns
  have hts := atoms_spec (ws := zWs MJ0_checkIndex_df160) B.pre
  have hT : ∀ w ∈ zT, w.before ([.int i, .int n] : List Value).toArray s = true := fun w hw => hts w (List.mem_cons_of_mem _ hw)
  have hown := findClass_of_methodNamed B.named
  have hlocks := B.notSynchronized
  have hS : va_S (fun _ => False) s.heap s.heap [] := va_S.rf
  have hl := lv_entry ([.int i, .int n]) (n := 2) (Nat.le_of_ble_eq_true rfl)
  rw [lg_entry_eq]
  generalize (lg_sl ([.int i, .int n]) ++ List.replicate (2 - (lg_sl ([.int i, .int n])).length) Slot.unset).toArray = ls at hl ⊢
  have hl : lv_has ls 2 [(0, .int i), (1, .int n)] := hl
  refine lv_iload_n hx hb dJ0_checkIndex_df160_0 rfl (lv_at hl 0 rfl) ?_
  refine lv_iload_n hx hb dJ0_checkIndex_df160_1 rfl (lv_at hl 1 rfl) ?_
  rcases hF.2.2.2.2.2 with hz9 | ⟨t9, hz9⟩
  · refine va_gets hx hb hz9 hS hown (hT _ fwJ0_1053) (fun _ h9 => h9) dJ0_checkIndex_df160_2 ?_
    refine va_calli (va_runS (As := [.int i, .int n, .null]) (rest := []) ⟨hx, hb, hml, hown, hT⟩ (m_pciN l a b s.heap i n h1 h2) (va_cwS 3 hT (zgS mlJ0_1059 msJ3_checkIndex_8e157 moJ3_checkIndex_8e157) rfl rfl rfl moJ3_checkIndex_8e157.2.2 ⟨by decide, by decide⟩) ⟨zBs_blind, fun U hU hW => ⟨rfl, zBs_for hF hS hU hW⟩⟩ rfl rfl hl.1 rfl (lv_room (Nat.le_of_ble_eq_true rfl)) dJ0_checkIndex_df160_5 ⟨by decide, by decide⟩) hS (fun q _ h => h.elim) (fun q h => h.elim) (fun r u t H1 locs1 ht hvm hw hB hz1 hk1 hS => ?_)
    obtain rfl : H1 = s.heap := ht.symm.trans hB
    refine lv_pop hx hb dJ0_checkIndex_df160_8 rfl ?_
    exact W.vret hx hb hr (fun t ht hW => ⟨⟨(), rfl, trivial, ht⟩, hS.F ht⟩) hS.2.2 dJ0_checkIndex_df160_9
  · refine va_gets hx hb hz9 hS hown (hT _ fwJ0_1053) (fun _ h9 => h9) dJ0_checkIndex_df160_2 ?_
    refine va_calli (va_runS (As := [.int i, .int n, .ref t9]) (rest := []) ⟨hx, hb, hml, hown, hT⟩ (m_pciR l a b s.heap i n h1 h2 t9) (va_cwS 3 hT (zgS mlJ0_1059 msJ3_checkIndex_8e157 moJ3_checkIndex_8e157) rfl rfl rfl moJ3_checkIndex_8e157.2.2 ⟨by decide, by decide⟩) ⟨zBs_blind, fun U hU hW => ⟨rfl, zBs_for hF hS hU hW⟩⟩ rfl rfl hl.1 rfl (lv_room (Nat.le_of_ble_eq_true rfl)) dJ0_checkIndex_df160_5 ⟨by decide, by decide⟩) hS (fun q _ h => h.elim) (fun q h => h.elim) (fun r u t H1 locs1 ht hvm hw hB hz1 hk1 hS => ?_)
    obtain rfl : H1 = s.heap := ht.symm.trans hB
    refine lv_pop hx hb dJ0_checkIndex_df160_8 rfl ?_
    exact W.vret hx hb hr (fun t ht hW => ⟨⟨(), rfl, trivial, ht⟩, hS.F ht⟩) hS.2.2 dJ0_checkIndex_df160_9
set_option maxHeartbeats 4000000 in
set_option maxRecDepth 100000 in
theorem m_chL (l : Launch) (a b : Nat) (H0 : Heap) (i z9 : Int32) (h1 : ¬ i < 0) (h2 : i < 4) (h3 : vp_in i 4) (h4 : (([99, 114, 115, 109] : List Int32).getD i.toNatClampNeg 0) = z9) (h5 : z9 &&& 255 = z9) (h6 : (z9.toUInt32 % 65536).toInt32 = z9) (h7 : narrow .char (.int z9) = .int z9) : Met l yJ1_charAt_3b067 (zWs MJ1_charAt_3b067) (zMr MJ1_charAt_3b067) (va_Pc [.ref b, .int i] (zBs a b H0)) (va_Qi (fun (r : Int32) (_ : Unit) => r = z9) (fun _ t => t.heap = H0) (fun _ => False)) 0 0 (fun _ => False) := by
  refine Met.ofW (cc := cJ1_charAt_3b067) (maxL := 2) (ret := (some .char)) (by decide) rfl ?_
  intro p e s m args below meth c s₁ B hml hv9
  obtain ⟨rfl, hU0, hF⟩ := hv9
  subst hU0
  have hx := B.exec
  have hb := B.bytes
  have hr := B.returns
  have hts := atoms_spec (ws := zWs MJ1_charAt_3b067) B.pre
  have hT : ∀ w ∈ zT, w.before ([.ref b, .int i] : List Value).toArray s = true := fun w hw => hts w (List.mem_cons_of_mem _ hw)
  have hown := findClass_of_methodNamed B.named
  have hlocks := B.notSynchronized
  have hS : va_S (fun _ => False) s.heap s.heap [] := va_S.rf
  have hl := lv_entry ([.ref b, .int i]) (n := 2) (Nat.le_of_ble_eq_true rfl)
  rw [lg_entry_eq]
  generalize (lg_sl ([.ref b, .int i]) ++ List.replicate (2 - (lg_sl ([.ref b, .int i])).length) Slot.unset).toArray = ls at hl ⊢
  have hl : lv_has ls 2 [(0, .ref b), (1, .int i)] := hl
  refine lv_iload_n hx hb dJ1_charAt_3b067_0 rfl (lv_at hl 1 rfl) ?_
  refine lv_aload_n hx hb dJ1_charAt_3b067_1 rfl (lv_at hl 0 rfl) ?_
  refine va_tlen (v := 4) hx hb hF.2.2.2.1 hS rfl dJ1_charAt_3b067_2 ?_
  refine va_callv (va_runS (As := [.int i, .int 4]) (rest := []) ⟨hx, hb, hml, hown, hT⟩ (m_jci l a b s.heap i 4 h1 h2) (va_cwS 2 hT (zgS mlJ1_9 msJ0_checkIndex_df160 moJ0_checkIndex_df160) rfl rfl rfl moJ0_checkIndex_df160.2.2 ⟨by decide, by decide⟩) ⟨zBs_blind, fun U hU hW => ⟨rfl, zBs_for hF hS hU hW⟩⟩ rfl rfl hl.1 rfl (lv_room (Nat.le_of_ble_eq_true rfl)) dJ1_charAt_3b067_3 ⟨by decide, by decide⟩) hS (fun q _ h => h.elim) (fun q h => h.elim) (fun u t H1 locs1 ht hvm hw hB hz1 hk1 hS => ?_)
  obtain rfl : H1 = s.heap := ht.symm.trans hB
  refine lv_aload_n hx hb dJ1_charAt_3b067_6 rfl (lv_at hl 0 rfl) ?_
  refine lv_iload_n hx hb dJ1_charAt_3b067_7 rfl (lv_at hl 1 rfl) ?_
  refine va_tb (v := .int z9) hx hb hF.2.2.2.1 hS h3 (by rw [← h4]) dJ1_charAt_3b067_8 ?_
  refine lv_sipush (v := 255) hx hb dJ1_charAt_3b067_9 (by decide) ?_
  refine lv_iand hx hb dJ1_charAt_3b067_12 ?_
  rw [h5]
  refine lv_i2c hx hb dJ1_charAt_3b067_13 h6 ?_
  exact W.zret (v := z9) hx hb hr h7 (fun t ht hW => ⟨⟨z9, (), rfl, rfl, ht⟩, hS.F ht⟩) hS.2.2 dJ1_charAt_3b067_14
set_option maxHeartbeats 4000000 in
set_option maxRecDepth 100000 in
theorem m_isL (l : Launch) (a b : Nat) (H0 : Heap) : Met l yJ0_isLatin1_aae02 (zWs MJ0_isLatin1_aae02) (zMr MJ0_isLatin1_aae02) (va_Pc [.ref a] (zBs a b H0)) (va_Qi (fun (r : Int32) (_ : Unit) => r = 1) (fun _ t => t.heap = H0) (fun _ => False)) 0 0 (fun _ => False) := by
  refine Met.ofW (cc := cJ0_isLatin1_aae02) (maxL := 1) (ret := (some .boolean)) (by decide) rfl ?_
  intro p e s m args below meth c s₁ B hml hv9
  obtain ⟨rfl, hU0, hF⟩ := hv9
  subst hU0
  have hx := B.exec
  have hb := B.bytes
  have hr := B.returns
  have hts := atoms_spec (ws := zWs MJ0_isLatin1_aae02) B.pre
  have hT : ∀ w ∈ zT, w.before ([.ref a] : List Value).toArray s = true := fun w hw => hts w (List.mem_cons_of_mem _ hw)
  have hown := findClass_of_methodNamed B.named
  have hlocks := B.notSynchronized
  have hS : va_S (fun _ => False) s.heap s.heap [] := va_S.rf
  have hl := lv_entry ([.ref a]) (n := 1) (Nat.le_of_ble_eq_true rfl)
  rw [lg_entry_eq]
  generalize (lg_sl ([.ref a]) ++ List.replicate (1 - (lg_sl ([.ref a])).length) Slot.unset).toArray = ls at hl ⊢
  have hl : lv_has ls 1 [(0, .ref a)] := hl
  refine va_gets hx hb hF.2.2.2.2.1 hS hown (hT _ fwJ0_38) (fun _ h9 => h9) dJ0_isLatin1_aae02_0 ?_
  refine lv_if_eq (tgt := 17) hx hb dJ0_isLatin1_aae02_3 (by decide) (fun z => absurd z (by decide)) (fun _ => ?_)
  refine lv_aload_n hx hb dJ0_isLatin1_aae02_6 rfl (lv_at hl 0 rfl) ?_
  refine vk_getf hx hb hF.2.1 hS hown (hT _ fwJ0_15) (fun _ h9 => h9) dJ0_isLatin1_aae02_7 ?_
  refine lv_if_ne (tgt := 17) hx hb dJ0_isLatin1_aae02_10 (by decide) (fun z => absurd rfl z) (fun _ => ?_)
  refine lv_iconst (v := 1) hx hb dJ0_isLatin1_aae02_13 (by decide) ?_
  refine lv_goto (tgt := 18) hx hb dJ0_isLatin1_aae02_14 (by decide) ?_
  exact W.zret (v := 1) hx hb hr (by decide) (fun t ht hW => ⟨⟨1, (), rfl, rfl, ht⟩, hS.F ht⟩) hS.2.2 dJ0_isLatin1_aae02_18
theorem zBs_recv {a b : Nat} {A : Nat → Prop} {s : State} {H : Heap} {locs : List Loc} (h : zFs a b A s s.heap) (hS : va_S A s.heap H locs) : ∃ cell : Cell, H[a]? = some cell ∧ cell.vm.isStatics = false ∧ s.vm.findClass "java/lang/String" = some cell.cls := by
  obtain ⟨cell, h1, h2, h3, -⟩ := h.1.kept hS.2.1
  exact ⟨cell, h1, h2, h3⟩
set_option maxHeartbeats 4000000 in
set_option maxRecDepth 100000 in
theorem m_chr (l : Launch) (a b : Nat) (H0 : Heap) (i z9 : Int32) (h1 : ¬ i < 0) (h2 : i < 4) (h3 : vp_in i 4) (h4 : (([99, 114, 115, 109] : List Int32).getD i.toNatClampNeg 0) = z9) (h5 : z9 &&& 255 = z9) (h6 : (z9.toUInt32 % 65536).toInt32 = z9) (h7 : narrow .char (.int z9) = .int z9) : Met l yJ0_charAt_5068e (zWs MJ0_charAt_5068e) (zMr MJ0_charAt_5068e) (va_Pc [.ref a, .int i] (zBs a b H0)) (va_Qi (fun (r : Int32) (_ : Unit) => r = z9) (fun _ t => t.heap = H0) (fun _ => False)) 0 0 (fun _ => False) := by
  refine Met.ofW (cc := cJ0_charAt_5068e) (maxL := 2) (ret := (some .char)) (by decide) rfl ?_
  intro p e s m args below meth c s₁ B hml hv9
  obtain ⟨rfl, hU0, hF⟩ := hv9
  subst hU0
  have hx := B.exec
  have hb := B.bytes
  have hr := B.returns
  have hts := atoms_spec (ws := zWs MJ0_charAt_5068e) B.pre
  have hT : ∀ w ∈ zT, w.before ([.ref a, .int i] : List Value).toArray s = true := fun w hw => hts w (List.mem_cons_of_mem _ hw)
  have hown := findClass_of_methodNamed B.named
  have hlocks := B.notSynchronized
  have hS : va_S (fun _ => False) s.heap s.heap [] := va_S.rf
  have hl := lv_entry ([.ref a, .int i]) (n := 2) (Nat.le_of_ble_eq_true rfl)
  rw [lg_entry_eq]
  generalize (lg_sl ([.ref a, .int i]) ++ List.replicate (2 - (lg_sl ([.ref a, .int i])).length) Slot.unset).toArray = ls at hl ⊢
  have hl : lv_has ls 2 [(0, .ref a), (1, .int i)] := hl
  refine lv_aload_n hx hb dJ0_charAt_5068e_0 rfl (lv_at hl 0 rfl) ?_
  refine va_calli (va_runV (b := a) (As := []) (rest := []) ⟨hx, hb, hml, hown, hT⟩ (m_isL l a b s.heap) (cwV 0 hT (zgV mlJ0_492 mvJ0_isLatin1_aae02 moJ0_isLatin1_aae02) rfl rfl rfl ⟨rfl, moJ0_isLatin1_aae02.2.2⟩ ⟨by decide, by decide⟩) ⟨zBs_blind, zBs_recv hF hS, fun U hU hW => ⟨rfl, zBs_for hF hS hU hW⟩⟩ rfl rfl hl.1 rfl (lv_room (Nat.le_of_ble_eq_true rfl)) dJ0_charAt_5068e_1 ⟨by decide, by decide⟩) hS (fun q _ h => h.elim) (fun q h => h.elim) (fun r u t H1 locs1 ht hvm hw hB hz1 hk1 hS => ?_)
  obtain rfl : H1 = s.heap := ht.symm.trans hB
  rw [show r = 1 from hw]
  refine lv_if_eq (tgt := 16) hx hb dJ0_charAt_5068e_4 (by decide) (fun z => absurd z (by decide)) (fun _ => ?_)
  refine lv_aload_n hx hb dJ0_charAt_5068e_7 rfl (lv_at hl 0 rfl) ?_
  refine vk_getf hx hb hF.2.2.1 hS hown (hT _ fwJ0_9) (fun _ h9 => h9) dJ0_charAt_5068e_8 ?_
  refine lv_iload_n hx hb dJ0_charAt_5068e_11 rfl (lv_at hl 1 rfl) ?_
  refine va_calli (va_runS (As := [.ref b, .int i]) (rest := []) ⟨hx, hb, hml, hown, hT⟩ (m_chL l a b s.heap i z9 h1 h2 h3 h4 h5 h6 h7) (va_cwS 2 hT (zgS mlJ0_495 msJ1_charAt_3b067 moJ1_charAt_3b067) rfl rfl rfl moJ1_charAt_3b067.2.2 ⟨by decide, by decide⟩) ⟨zBs_blind, fun U hU hW => ⟨rfl, zBs_for hF hS hU hW⟩⟩ rfl rfl hl.1 rfl (lv_room (Nat.le_of_ble_eq_true rfl)) dJ0_charAt_5068e_12 ⟨by decide, by decide⟩) hS (fun q _ h => h.elim) (fun q h => h.elim) (fun r2 u2 t2 H2 locs2 ht2 hvm2 hw2 hB2 hz2 hk2 hS => ?_)
  obtain rfl : H2 = s.heap := ht2.symm.trans hB2
  rw [show r2 = z9 from hw2]
  exact W.zret (v := z9) hx hb hr h7 (fun t ht hW => ⟨⟨z9, (), rfl, rfl, ht⟩, hS.F ht⟩) hS.2.2 dJ0_charAt_5068e_15
/-- the letter at a place of the text -/
def how4 (v : Int) : Int := if v = 0 then 99 else if v = 1 then 114 else if v = 2 then 115 else 109
abbrev MLW (L : Nat) (f : Nat → Int32) : zM := (yL_law, cL_law, 20, (some .boolean), room_1, [], some (L, f))
set_option maxHeartbeats 4000000 in
set_option maxRecDepth 100000 in
/-- the law's own text and the letter that is asked of it, in one row -/
theorem e_crsm {l : Launch} (hl : l.stackTraces = false) {L : Nat} {f : Nat → Int32} (hL2 : L ≤ 260) {Q : zO → zH → Prop} {k n : Nat} {ls : List zV} {h : zH} {at9 : Int} (l0 : ls[0]? = some zY) (l10 : ls[10]? = some (zI at9)) (ha : 0 ≤ at9 ∧ at9 ≤ 390) (hk : k ≤ 600192) (hn : n ≤ 7295879) (K : AW l (MLW L f) Q k n 564 ls [zI (how4 (smv L f (at9 + 4) 4))] h) : AW l (MLW L f) Q k n 550 ls [] h := by
  intro p e s m args below meth c D dA ad0 h0 A C H locs ad lm hP hE hS hL o1 o2
  have hT := C.2.2.2.2.2.1
  obtain ⟨a, b, hR, hF⟩ := C.2.2.2.2.2.2.2.2.2.2.1.2.2.2.2
  refine va_ldcS C.1 C.2.1 C.2.2.2.2.1 hR dL_law_550 ?_
  refine lv_aload_n C.1 C.2.1 dL_law_552 rfl (zLO_at hL l0 (by intro z; cases z)) ?_
  refine lv_iload C.1 C.2.1 dL_law_553 (zLO_at hL l10 zne_I) ?_
  refine lv_iconst (v := Int32.ofInt 4) C.1 C.2.1 dL_law_555 rfl ?_
  refine lv_iadd C.1 C.2.1 dL_law_556 ?_
  rw [← Int32.ofInt_add]
  refine lv_iconst (v := Int32.ofInt 4) C.1 C.2.1 dL_law_557 rfl ?_
  refine w_callSY (Y := MLW L f) (Yc := MLsome L f) (As := [zY, zI (at9 + 4), zI 4]) (restV := [.ref a]) C hP hE hS hL dL_law_558 moL_some msL_some mlL_146 rfl (fun v hv => ?_) (by show (1 : Nat) ≤ 8; omega) ⟨Nat.le_of_ble_eq_true rfl, Nat.le_of_ble_eq_true rfl, by show k + 0 ≤ 600192; omega, by show n + 0 ≤ 7295879; omega⟩ (c_L_some hl hL2 (at9 + 4) 4 (by omega) (by omega) (by omega) (by omega)) (fun E h1 q => by cases q.1) (fun v h1 ad1 H1 locs1 q hP1 hE1 hS1 ho => ?_)
  · rcases List.mem_cons.mp hv with rfl | hv
    · trivial
    · rcases List.mem_cons.mp hv with rfl | hv
      · trivial
      · rcases List.mem_cons.mp hv with rfl | hv
        · trivial
        · cases hv
  obtain ⟨e1, e2⟩ := q
  cases e1
  subst e2
  have hb := smv_in (L := L) (f := f) (k := at9 + 4) (n := 4) (by omega)
  generalize smv L f (at9 + 4) 4 = v at hb K
  have hz : ∃ i z9 : Int32, Int32.ofInt v = i ∧ Int32.ofInt (how4 v) = z9 ∧ ¬ i < 0 ∧ i < 4 ∧ vp_in i 4 ∧ (([99, 114, 115, 109] : List Int32).getD i.toNatClampNeg 0) = z9 ∧ z9 &&& 255 = z9 ∧ (z9.toUInt32 % 65536).toInt32 = z9 ∧ narrow .char (.int z9) = .int z9 := by
    rcases (show v = 0 ∨ v = 1 ∨ v = 2 ∨ v = 3 by omega) with rfl | rfl | rfl | rfl
    · exact ⟨0, 99, rfl, rfl, by decide, by decide, by unfold vp_in; decide, rfl, by decide, by decide, by decide⟩
    · exact ⟨1, 114, rfl, rfl, by decide, by decide, by unfold vp_in; decide, rfl, by decide, by decide, by decide⟩
    · exact ⟨2, 115, rfl, rfl, by decide, by decide, by unfold vp_in; decide, rfl, by decide, by decide, by decide⟩
    · exact ⟨3, 109, rfl, rfl, by decide, by decide, by unfold vp_in; decide, rfl, by decide, by decide, by decide⟩
  obtain ⟨i, z9, ei, ez, h1, h2, h3, h4, h5, h6, h7⟩ := hz
  show W p l e room_1 s m args below meth c H1 locs1 (k + 0) (n + 0) _ (F0 m 561 lm [.int (Int32.ofInt v), .ref a])
  rw [ei]
  refine va_calli (va_runV (b := a) (As := [.int i]) (rest := []) ⟨C.1, C.2.1, C.2.2.2.1, C.2.2.2.2.1, hT⟩ (m_chr l a b H1 i z9 h1 h2 h3 h4 h5 h6 h7) (cwV 1 hT (zgV mlL_167 mvJ0_charAt_5068e moJ0_charAt_5068e) rfl rfl rfl ⟨rfl, moJ0_charAt_5068e.2.2⟩ ⟨by decide, Nat.le_of_ble_eq_true rfl⟩) ⟨zBs_blind, zBs_recv hF hS1, fun U hU hW => ⟨rfl, zBs_for hF hS1 hU hW⟩⟩ rfl rfl hL.1 rfl (lv_room (Nat.le_of_ble_eq_true rfl)) dL_law_561 ⟨by show k + 0 + 0 ≤ 600192; omega, by show n + 0 + 0 ≤ 7295879; omega⟩) hS1 (fun q _ h => h.elim) (fun q h => h.elim) (fun r u t H2 locs2 ht hvm hw hB hz1 hk1 hS2 => ?_)
  obtain rfl : H2 = H1 := ht.symm.trans hB
  rw [show r = z9 from hw, ← ez]
  exact K p e s m args below meth c D dA ad0 h0 A C H2 locs2 ad1 lm hP1 (zE_tr hE hE1) hS2 (zLO_E hE1 o1 hL) (fun v hv => zokv_E hE1 (o1 v hv)) (zo_cons trivial (fun v hv => by cases hv))
